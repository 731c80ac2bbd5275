/-! what the Statement gives of the start, row by row -/
def am_go : List Bool → Jvm.Cond → Jvm.Cond
  | [], c => c
  | false :: r, .and a _ => am_go r a
  | true :: r, .and _ b => am_go r b
  | _ :: _, c => c
theorem am_go_before {args : Array Value} {s : State} : ∀ (p : List Bool) (c : Jvm.Cond), c.before args s = true → (am_go p c).before args s = true := by
  intro p
  induction p with
  | nil => intro c h; exact h
  | cons q r ih =>
    intro c h
    cases c
    case and a b =>
      rw [Cond.before_and, Bool.and_eq_true] at h
      cases q
      · exact ih a h.1
      · exact ih b h.2
    all_goals (cases q <;> exact h)
theorem am_getD_ge {α : Type} {l : List α} {i : Nat} {d : α} (h : l.length ≤ i) : l.getD i d = d := by
  rw [List.getD_eq_getElem?_getD, List.getElem?_eq_none h]; rfl
theorem am_tb1 {w : Jvm.Cond} {i : Nat} (h : tables_1_1[i]? = some w) : w ∈ lw_tbl := List.mem_append_right _ (have h := List.mem_of_getElem? h; List.mem_append_left _ h)
theorem am_tb2 {w : Jvm.Cond} {i : Nat} (h : tables_1_2[i]? = some w) : w ∈ lw_tbl := List.mem_append_right _ (have h := List.mem_of_getElem? h; List.mem_append_right _ (List.mem_append_left _ h))
theorem am_tb3 {w : Jvm.Cond} {i : Nat} (h : tables_1_3[i]? = some w) : w ∈ lw_tbl := List.mem_append_right _ (have h := List.mem_of_getElem? h; List.mem_append_right _ (List.mem_append_right _ (List.mem_append_left _ h)))
theorem am_tb4 {w : Jvm.Cond} {i : Nat} (h : tables_1_4[i]? = some w) : w ∈ lw_tbl := List.mem_append_right _ (have h := List.mem_of_getElem? h; List.mem_append_right _ (List.mem_append_right _ (List.mem_append_right _ (List.mem_append_left _ h))))
theorem am_tb5 {w : Jvm.Cond} {i : Nat} (h : tables_1_5[i]? = some w) : w ∈ lw_tbl := List.mem_append_right _ (have h := List.mem_of_getElem? h; List.mem_append_right _ (List.mem_append_right _ (List.mem_append_right _ (List.mem_append_right _ (List.mem_append_left _ h)))))
theorem am_tb6 {w : Jvm.Cond} {i : Nat} (h : tables_1_6[i]? = some w) : w ∈ lw_tbl := List.mem_append_right _ (have h := List.mem_of_getElem? h; List.mem_append_right _ (List.mem_append_right _ (List.mem_append_right _ (List.mem_append_right _ (List.mem_append_right _ (List.mem_append_left _ h))))))
theorem am_tb7 {w : Jvm.Cond} {i : Nat} (h : tables_1_7[i]? = some w) : w ∈ lw_tbl := List.mem_append_right _ (have h := List.mem_of_getElem? h; List.mem_append_right _ (List.mem_append_right _ (List.mem_append_right _ (List.mem_append_right _ (List.mem_append_right _ (List.mem_append_right _ (List.mem_append_left _ h)))))))
theorem am_tb8 {w : Jvm.Cond} {i : Nat} (h : tables_1_8[i]? = some w) : w ∈ lw_tbl := List.mem_append_right _ (have h := List.mem_of_getElem? h; List.mem_append_right _ (List.mem_append_right _ (List.mem_append_right _ (List.mem_append_right _ (List.mem_append_right _ (List.mem_append_right _ (List.mem_append_right _ (h))))))))
def am_y29 : List Int32 := [109, 101, 116, 104, 111, 100, 32, 118, 97, 114, 32, 105, 102, 32, 101, 108, 115, 101, 32, 119, 104, 105, 108, 101, 32, 114, 101, 116, 117, 114, 110, 32, 97, 110, 115, 119, 101, 114, 32, 119, 114, 105, 116, 101, 32, 102, 97, 105, 108, 32, 103, 117, 97, 114, 100, 32, 111, 110, 32, 101, 110, 115, 117, 114, 101, 32, 115, 101, 116, 32, 97, 100, 100, 32, 103, 105, 118, 101, 32, 100, 114, 111, 112, 32, 108, 105, 110, 107, 32, 117, 110, 108, 105, 110, 107, 32, 99, 108, 111, 110, 101, 32, 110, 101, 119, 32, 110, 105, 108, 32, 115, 101, 108, 102, 32, 108, 111, 98, 98, 121, 32, 97, 98, 111, 118, 101, 32]
def am_s29 : List Int := [109, 101, 116, 104, 111, 100, 32, 118, 97, 114, 32, 105, 102, 32, 101, 108, 115, 101, 32, 119, 104, 105, 108, 101, 32, 114, 101, 116, 117, 114, 110, 32, 97, 110, 115, 119, 101, 114, 32, 119, 114, 105, 116, 101, 32, 102, 97, 105, 108, 32, 103, 117, 97, 114, 100, 32, 111, 110, 32, 101, 110, 115, 117, 114, 101, 32, 115, 101, 116, 32, 97, 100, 100, 32, 103, 105, 118, 101, 32, 100, 114, 111, 112, 32, 108, 105, 110, 107, 32, 117, 110, 108, 105, 110, 107, 32, 99, 108, 111, 110, 101, 32, 110, 101, 119, 32, 110, 105, 108, 32, 115, 101, 108, 102, 32, 108, 111, 98, 98, 121, 32, 97, 98, 111, 118, 101, 32]
theorem am_ys29 : ∀ j, Int32.ofInt (am_s29.getD j 0) = am_y29.getD j 0 := by
  intro j
  by_cases hj : j < 127
  · revert hj; revert j; decide +kernel
  · rw [am_getD_ge (Nat.le_of_not_lt hj), am_getD_ge (Nat.le_of_not_lt hj)]; rfl
theorem am_ex29 {args : Array Value} {s : State} (h : narrow_1.before args s = true) : (Jvm.Cond.exactly (Term.string "DelegationShop$Tape" 29) "java/lang/String").before args s = true := (am_go_before [false, true, false, true, true, true, false, false, false] _ h)
theorem am_cd29 {args : Array Value} {s : State} (h : narrow_1.before args s = true) : (Jvm.Cond.eq (Term.field (Term.string "DelegationShop$Tape" 29) "java/lang/String" "coder" "B") (.int 0)).before args s = true := (am_go_before [false, true, false, true, true, true, false, false, true, false] _ h)
theorem am_ar29 {args : Array Value} {s : State} (h : narrow_1.before args s = true) : (Jvm.Cond.arrayOf (Term.field (Term.string "DelegationShop$Tape" 29) "java/lang/String" "value" "[B") .byte).before args s = true := (am_go_before [false, true, false, true, true, true, false, false, true, true] _ h)
theorem am_ln29 {args : Array Value} {s : State} (h : narrow_1.before args s = true) : (Jvm.Cond.eq (Term.length (Term.field (Term.string "DelegationShop$Tape" 29) "java/lang/String" "value" "[B")) (.int (Int32.ofNat 127))).before args s = true := (am_go_before [false, true, false, true, true, true, false, true, false] _ h)
theorem am_el29_0 {args : Array Value} {s : State} (h : narrow_1.before args s = true) : (Jvm.Cond.eq (Term.elem (Term.field (Term.string "DelegationShop$Tape" 29) "java/lang/String" "value" "[B") (.int (Int32.ofNat 0))) (.int (am_y29.getD 0 0))).before args s = true := (am_go_before [false, true, false, true, true, true, false, true, true, false] _ h)
theorem am_el29_1 {args : Array Value} {s : State} (h : narrow_1.before args s = true) : (Jvm.Cond.eq (Term.elem (Term.field (Term.string "DelegationShop$Tape" 29) "java/lang/String" "value" "[B") (.int (Int32.ofNat 1))) (.int (am_y29.getD 1 0))).before args s = true := (am_go_before [false, true, false, true, true, true, false, true, true, true] _ h)
theorem am_el29_2 {args : Array Value} {s : State} (h : narrow_1.before args s = true) : (Jvm.Cond.eq (Term.elem (Term.field (Term.string "DelegationShop$Tape" 29) "java/lang/String" "value" "[B") (.int (Int32.ofNat 2))) (.int (am_y29.getD 2 0))).before args s = true := (am_go_before [false, true, false, true, true, true, true, false, false] _ h)
theorem am_el29_3 {args : Array Value} {s : State} (h : narrow_1.before args s = true) : (Jvm.Cond.eq (Term.elem (Term.field (Term.string "DelegationShop$Tape" 29) "java/lang/String" "value" "[B") (.int (Int32.ofNat 3))) (.int (am_y29.getD 3 0))).before args s = true := (am_go_before [false, true, false, true, true, true, true, false, true, false] _ h)
theorem am_el29_4 {args : Array Value} {s : State} (h : narrow_1.before args s = true) : (Jvm.Cond.eq (Term.elem (Term.field (Term.string "DelegationShop$Tape" 29) "java/lang/String" "value" "[B") (.int (Int32.ofNat 4))) (.int (am_y29.getD 4 0))).before args s = true := (am_go_before [false, true, false, true, true, true, true, false, true, true] _ h)
theorem am_el29_5 {args : Array Value} {s : State} (h : narrow_1.before args s = true) : (Jvm.Cond.eq (Term.elem (Term.field (Term.string "DelegationShop$Tape" 29) "java/lang/String" "value" "[B") (.int (Int32.ofNat 5))) (.int (am_y29.getD 5 0))).before args s = true := (am_go_before [false, true, false, true, true, true, true, true, false] _ h)
theorem am_el29_6 {args : Array Value} {s : State} (h : narrow_1.before args s = true) : (Jvm.Cond.eq (Term.elem (Term.field (Term.string "DelegationShop$Tape" 29) "java/lang/String" "value" "[B") (.int (Int32.ofNat 6))) (.int (am_y29.getD 6 0))).before args s = true := (am_go_before [false, true, false, true, true, true, true, true, true, false] _ h)
theorem am_el29_7 {args : Array Value} {s : State} (h : narrow_1.before args s = true) : (Jvm.Cond.eq (Term.elem (Term.field (Term.string "DelegationShop$Tape" 29) "java/lang/String" "value" "[B") (.int (Int32.ofNat 7))) (.int (am_y29.getD 7 0))).before args s = true := (am_go_before [false, true, false, true, true, true, true, true, true, true] _ h)
theorem am_el29_8 {args : Array Value} {s : State} (h : narrow_1.before args s = true) : (Jvm.Cond.eq (Term.elem (Term.field (Term.string "DelegationShop$Tape" 29) "java/lang/String" "value" "[B") (.int (Int32.ofNat 8))) (.int (am_y29.getD 8 0))).before args s = true := (am_go_before [false, true, true, false, false, false, false, false, false] _ h)
theorem am_el29_9 {args : Array Value} {s : State} (h : narrow_1.before args s = true) : (Jvm.Cond.eq (Term.elem (Term.field (Term.string "DelegationShop$Tape" 29) "java/lang/String" "value" "[B") (.int (Int32.ofNat 9))) (.int (am_y29.getD 9 0))).before args s = true := (am_go_before [false, true, true, false, false, false, false, false, true] _ h)
theorem am_el29_10 {args : Array Value} {s : State} (h : narrow_1.before args s = true) : (Jvm.Cond.eq (Term.elem (Term.field (Term.string "DelegationShop$Tape" 29) "java/lang/String" "value" "[B") (.int (Int32.ofNat 10))) (.int (am_y29.getD 10 0))).before args s = true := (am_go_before [false, true, true, false, false, false, false, true, false] _ h)
theorem am_el29_11 {args : Array Value} {s : State} (h : narrow_1.before args s = true) : (Jvm.Cond.eq (Term.elem (Term.field (Term.string "DelegationShop$Tape" 29) "java/lang/String" "value" "[B") (.int (Int32.ofNat 11))) (.int (am_y29.getD 11 0))).before args s = true := (am_go_before [false, true, true, false, false, false, false, true, true, false] _ h)
theorem am_el29_12 {args : Array Value} {s : State} (h : narrow_1.before args s = true) : (Jvm.Cond.eq (Term.elem (Term.field (Term.string "DelegationShop$Tape" 29) "java/lang/String" "value" "[B") (.int (Int32.ofNat 12))) (.int (am_y29.getD 12 0))).before args s = true := (am_go_before [false, true, true, false, false, false, false, true, true, true] _ h)
theorem am_el29_13 {args : Array Value} {s : State} (h : narrow_1.before args s = true) : (Jvm.Cond.eq (Term.elem (Term.field (Term.string "DelegationShop$Tape" 29) "java/lang/String" "value" "[B") (.int (Int32.ofNat 13))) (.int (am_y29.getD 13 0))).before args s = true := (am_go_before [false, true, true, false, false, false, true, false, false] _ h)
theorem am_el29_14 {args : Array Value} {s : State} (h : narrow_1.before args s = true) : (Jvm.Cond.eq (Term.elem (Term.field (Term.string "DelegationShop$Tape" 29) "java/lang/String" "value" "[B") (.int (Int32.ofNat 14))) (.int (am_y29.getD 14 0))).before args s = true := (am_go_before [false, true, true, false, false, false, true, false, true, false] _ h)
theorem am_el29_15 {args : Array Value} {s : State} (h : narrow_1.before args s = true) : (Jvm.Cond.eq (Term.elem (Term.field (Term.string "DelegationShop$Tape" 29) "java/lang/String" "value" "[B") (.int (Int32.ofNat 15))) (.int (am_y29.getD 15 0))).before args s = true := (am_go_before [false, true, true, false, false, false, true, false, true, true] _ h)
theorem am_el29_16 {args : Array Value} {s : State} (h : narrow_1.before args s = true) : (Jvm.Cond.eq (Term.elem (Term.field (Term.string "DelegationShop$Tape" 29) "java/lang/String" "value" "[B") (.int (Int32.ofNat 16))) (.int (am_y29.getD 16 0))).before args s = true := (am_go_before [false, true, true, false, false, false, true, true, false] _ h)
theorem am_el29_17 {args : Array Value} {s : State} (h : narrow_1.before args s = true) : (Jvm.Cond.eq (Term.elem (Term.field (Term.string "DelegationShop$Tape" 29) "java/lang/String" "value" "[B") (.int (Int32.ofNat 17))) (.int (am_y29.getD 17 0))).before args s = true := (am_go_before [false, true, true, false, false, false, true, true, true, false] _ h)
theorem am_el29_18 {args : Array Value} {s : State} (h : narrow_1.before args s = true) : (Jvm.Cond.eq (Term.elem (Term.field (Term.string "DelegationShop$Tape" 29) "java/lang/String" "value" "[B") (.int (Int32.ofNat 18))) (.int (am_y29.getD 18 0))).before args s = true := (am_go_before [false, true, true, false, false, false, true, true, true, true] _ h)
theorem am_el29_19 {args : Array Value} {s : State} (h : narrow_1.before args s = true) : (Jvm.Cond.eq (Term.elem (Term.field (Term.string "DelegationShop$Tape" 29) "java/lang/String" "value" "[B") (.int (Int32.ofNat 19))) (.int (am_y29.getD 19 0))).before args s = true := (am_go_before [false, true, true, false, false, true, false, false, false] _ h)
theorem am_el29_20 {args : Array Value} {s : State} (h : narrow_1.before args s = true) : (Jvm.Cond.eq (Term.elem (Term.field (Term.string "DelegationShop$Tape" 29) "java/lang/String" "value" "[B") (.int (Int32.ofNat 20))) (.int (am_y29.getD 20 0))).before args s = true := (am_go_before [false, true, true, false, false, true, false, false, true, false] _ h)
theorem am_el29_21 {args : Array Value} {s : State} (h : narrow_1.before args s = true) : (Jvm.Cond.eq (Term.elem (Term.field (Term.string "DelegationShop$Tape" 29) "java/lang/String" "value" "[B") (.int (Int32.ofNat 21))) (.int (am_y29.getD 21 0))).before args s = true := (am_go_before [false, true, true, false, false, true, false, false, true, true] _ h)
theorem am_el29_22 {args : Array Value} {s : State} (h : narrow_1.before args s = true) : (Jvm.Cond.eq (Term.elem (Term.field (Term.string "DelegationShop$Tape" 29) "java/lang/String" "value" "[B") (.int (Int32.ofNat 22))) (.int (am_y29.getD 22 0))).before args s = true := (am_go_before [false, true, true, false, false, true, false, true, false] _ h)
theorem am_el29_23 {args : Array Value} {s : State} (h : narrow_1.before args s = true) : (Jvm.Cond.eq (Term.elem (Term.field (Term.string "DelegationShop$Tape" 29) "java/lang/String" "value" "[B") (.int (Int32.ofNat 23))) (.int (am_y29.getD 23 0))).before args s = true := (am_go_before [false, true, true, false, false, true, false, true, true, false] _ h)
theorem am_el29_24 {args : Array Value} {s : State} (h : narrow_1.before args s = true) : (Jvm.Cond.eq (Term.elem (Term.field (Term.string "DelegationShop$Tape" 29) "java/lang/String" "value" "[B") (.int (Int32.ofNat 24))) (.int (am_y29.getD 24 0))).before args s = true := (am_go_before [false, true, true, false, false, true, false, true, true, true] _ h)
theorem am_el29_25 {args : Array Value} {s : State} (h : narrow_1.before args s = true) : (Jvm.Cond.eq (Term.elem (Term.field (Term.string "DelegationShop$Tape" 29) "java/lang/String" "value" "[B") (.int (Int32.ofNat 25))) (.int (am_y29.getD 25 0))).before args s = true := (am_go_before [false, true, true, false, false, true, true, false, false] _ h)
theorem am_el29_26 {args : Array Value} {s : State} (h : narrow_1.before args s = true) : (Jvm.Cond.eq (Term.elem (Term.field (Term.string "DelegationShop$Tape" 29) "java/lang/String" "value" "[B") (.int (Int32.ofNat 26))) (.int (am_y29.getD 26 0))).before args s = true := (am_go_before [false, true, true, false, false, true, true, false, true, false] _ h)
theorem am_el29_27 {args : Array Value} {s : State} (h : narrow_1.before args s = true) : (Jvm.Cond.eq (Term.elem (Term.field (Term.string "DelegationShop$Tape" 29) "java/lang/String" "value" "[B") (.int (Int32.ofNat 27))) (.int (am_y29.getD 27 0))).before args s = true := (am_go_before [false, true, true, false, false, true, true, false, true, true] _ h)
theorem am_el29_28 {args : Array Value} {s : State} (h : narrow_1.before args s = true) : (Jvm.Cond.eq (Term.elem (Term.field (Term.string "DelegationShop$Tape" 29) "java/lang/String" "value" "[B") (.int (Int32.ofNat 28))) (.int (am_y29.getD 28 0))).before args s = true := (am_go_before [false, true, true, false, false, true, true, true, false] _ h)
theorem am_el29_29 {args : Array Value} {s : State} (h : narrow_1.before args s = true) : (Jvm.Cond.eq (Term.elem (Term.field (Term.string "DelegationShop$Tape" 29) "java/lang/String" "value" "[B") (.int (Int32.ofNat 29))) (.int (am_y29.getD 29 0))).before args s = true := (am_go_before [false, true, true, false, false, true, true, true, true, false] _ h)
theorem am_el29_30 {args : Array Value} {s : State} (h : narrow_1.before args s = true) : (Jvm.Cond.eq (Term.elem (Term.field (Term.string "DelegationShop$Tape" 29) "java/lang/String" "value" "[B") (.int (Int32.ofNat 30))) (.int (am_y29.getD 30 0))).before args s = true := (am_go_before [false, true, true, false, false, true, true, true, true, true] _ h)
theorem am_el29_31 {args : Array Value} {s : State} (h : narrow_1.before args s = true) : (Jvm.Cond.eq (Term.elem (Term.field (Term.string "DelegationShop$Tape" 29) "java/lang/String" "value" "[B") (.int (Int32.ofNat 31))) (.int (am_y29.getD 31 0))).before args s = true := (am_go_before [false, true, true, false, true, false, false, false, false] _ h)
theorem am_el29_32 {args : Array Value} {s : State} (h : narrow_1.before args s = true) : (Jvm.Cond.eq (Term.elem (Term.field (Term.string "DelegationShop$Tape" 29) "java/lang/String" "value" "[B") (.int (Int32.ofNat 32))) (.int (am_y29.getD 32 0))).before args s = true := (am_go_before [false, true, true, false, true, false, false, false, true] _ h)
theorem am_el29_33 {args : Array Value} {s : State} (h : narrow_1.before args s = true) : (Jvm.Cond.eq (Term.elem (Term.field (Term.string "DelegationShop$Tape" 29) "java/lang/String" "value" "[B") (.int (Int32.ofNat 33))) (.int (am_y29.getD 33 0))).before args s = true := (am_go_before [false, true, true, false, true, false, false, true, false] _ h)
theorem am_el29_34 {args : Array Value} {s : State} (h : narrow_1.before args s = true) : (Jvm.Cond.eq (Term.elem (Term.field (Term.string "DelegationShop$Tape" 29) "java/lang/String" "value" "[B") (.int (Int32.ofNat 34))) (.int (am_y29.getD 34 0))).before args s = true := (am_go_before [false, true, true, false, true, false, false, true, true, false] _ h)
theorem am_el29_35 {args : Array Value} {s : State} (h : narrow_1.before args s = true) : (Jvm.Cond.eq (Term.elem (Term.field (Term.string "DelegationShop$Tape" 29) "java/lang/String" "value" "[B") (.int (Int32.ofNat 35))) (.int (am_y29.getD 35 0))).before args s = true := (am_go_before [false, true, true, false, true, false, false, true, true, true] _ h)
theorem am_el29_36 {args : Array Value} {s : State} (h : narrow_1.before args s = true) : (Jvm.Cond.eq (Term.elem (Term.field (Term.string "DelegationShop$Tape" 29) "java/lang/String" "value" "[B") (.int (Int32.ofNat 36))) (.int (am_y29.getD 36 0))).before args s = true := (am_go_before [false, true, true, false, true, false, true, false, false] _ h)
theorem am_el29_37 {args : Array Value} {s : State} (h : narrow_1.before args s = true) : (Jvm.Cond.eq (Term.elem (Term.field (Term.string "DelegationShop$Tape" 29) "java/lang/String" "value" "[B") (.int (Int32.ofNat 37))) (.int (am_y29.getD 37 0))).before args s = true := (am_go_before [false, true, true, false, true, false, true, false, true, false] _ h)
theorem am_el29_38 {args : Array Value} {s : State} (h : narrow_1.before args s = true) : (Jvm.Cond.eq (Term.elem (Term.field (Term.string "DelegationShop$Tape" 29) "java/lang/String" "value" "[B") (.int (Int32.ofNat 38))) (.int (am_y29.getD 38 0))).before args s = true := (am_go_before [false, true, true, false, true, false, true, false, true, true] _ h)
theorem am_el29_39 {args : Array Value} {s : State} (h : narrow_1.before args s = true) : (Jvm.Cond.eq (Term.elem (Term.field (Term.string "DelegationShop$Tape" 29) "java/lang/String" "value" "[B") (.int (Int32.ofNat 39))) (.int (am_y29.getD 39 0))).before args s = true := (am_go_before [false, true, true, false, true, false, true, true, false] _ h)
theorem am_el29_40 {args : Array Value} {s : State} (h : narrow_1.before args s = true) : (Jvm.Cond.eq (Term.elem (Term.field (Term.string "DelegationShop$Tape" 29) "java/lang/String" "value" "[B") (.int (Int32.ofNat 40))) (.int (am_y29.getD 40 0))).before args s = true := (am_go_before [false, true, true, false, true, false, true, true, true, false] _ h)
theorem am_el29_41 {args : Array Value} {s : State} (h : narrow_1.before args s = true) : (Jvm.Cond.eq (Term.elem (Term.field (Term.string "DelegationShop$Tape" 29) "java/lang/String" "value" "[B") (.int (Int32.ofNat 41))) (.int (am_y29.getD 41 0))).before args s = true := (am_go_before [false, true, true, false, true, false, true, true, true, true] _ h)
theorem am_el29_42 {args : Array Value} {s : State} (h : narrow_1.before args s = true) : (Jvm.Cond.eq (Term.elem (Term.field (Term.string "DelegationShop$Tape" 29) "java/lang/String" "value" "[B") (.int (Int32.ofNat 42))) (.int (am_y29.getD 42 0))).before args s = true := (am_go_before [false, true, true, false, true, true, false, false, false] _ h)
theorem am_el29_43 {args : Array Value} {s : State} (h : narrow_1.before args s = true) : (Jvm.Cond.eq (Term.elem (Term.field (Term.string "DelegationShop$Tape" 29) "java/lang/String" "value" "[B") (.int (Int32.ofNat 43))) (.int (am_y29.getD 43 0))).before args s = true := (am_go_before [false, true, true, false, true, true, false, false, true, false] _ h)
theorem am_el29_44 {args : Array Value} {s : State} (h : narrow_1.before args s = true) : (Jvm.Cond.eq (Term.elem (Term.field (Term.string "DelegationShop$Tape" 29) "java/lang/String" "value" "[B") (.int (Int32.ofNat 44))) (.int (am_y29.getD 44 0))).before args s = true := (am_go_before [false, true, true, false, true, true, false, false, true, true] _ h)
theorem am_el29_45 {args : Array Value} {s : State} (h : narrow_1.before args s = true) : (Jvm.Cond.eq (Term.elem (Term.field (Term.string "DelegationShop$Tape" 29) "java/lang/String" "value" "[B") (.int (Int32.ofNat 45))) (.int (am_y29.getD 45 0))).before args s = true := (am_go_before [false, true, true, false, true, true, false, true, false] _ h)
theorem am_el29_46 {args : Array Value} {s : State} (h : narrow_1.before args s = true) : (Jvm.Cond.eq (Term.elem (Term.field (Term.string "DelegationShop$Tape" 29) "java/lang/String" "value" "[B") (.int (Int32.ofNat 46))) (.int (am_y29.getD 46 0))).before args s = true := (am_go_before [false, true, true, false, true, true, false, true, true, false] _ h)
theorem am_el29_47 {args : Array Value} {s : State} (h : narrow_1.before args s = true) : (Jvm.Cond.eq (Term.elem (Term.field (Term.string "DelegationShop$Tape" 29) "java/lang/String" "value" "[B") (.int (Int32.ofNat 47))) (.int (am_y29.getD 47 0))).before args s = true := (am_go_before [false, true, true, false, true, true, false, true, true, true] _ h)
theorem am_el29_48 {args : Array Value} {s : State} (h : narrow_1.before args s = true) : (Jvm.Cond.eq (Term.elem (Term.field (Term.string "DelegationShop$Tape" 29) "java/lang/String" "value" "[B") (.int (Int32.ofNat 48))) (.int (am_y29.getD 48 0))).before args s = true := (am_go_before [false, true, true, false, true, true, true, false, false] _ h)
theorem am_el29_49 {args : Array Value} {s : State} (h : narrow_1.before args s = true) : (Jvm.Cond.eq (Term.elem (Term.field (Term.string "DelegationShop$Tape" 29) "java/lang/String" "value" "[B") (.int (Int32.ofNat 49))) (.int (am_y29.getD 49 0))).before args s = true := (am_go_before [false, true, true, false, true, true, true, false, true, false] _ h)
theorem am_el29_50 {args : Array Value} {s : State} (h : narrow_1.before args s = true) : (Jvm.Cond.eq (Term.elem (Term.field (Term.string "DelegationShop$Tape" 29) "java/lang/String" "value" "[B") (.int (Int32.ofNat 50))) (.int (am_y29.getD 50 0))).before args s = true := (am_go_before [false, true, true, false, true, true, true, false, true, true] _ h)
theorem am_el29_51 {args : Array Value} {s : State} (h : narrow_1.before args s = true) : (Jvm.Cond.eq (Term.elem (Term.field (Term.string "DelegationShop$Tape" 29) "java/lang/String" "value" "[B") (.int (Int32.ofNat 51))) (.int (am_y29.getD 51 0))).before args s = true := (am_go_before [false, true, true, false, true, true, true, true, false] _ h)
theorem am_el29_52 {args : Array Value} {s : State} (h : narrow_1.before args s = true) : (Jvm.Cond.eq (Term.elem (Term.field (Term.string "DelegationShop$Tape" 29) "java/lang/String" "value" "[B") (.int (Int32.ofNat 52))) (.int (am_y29.getD 52 0))).before args s = true := (am_go_before [false, true, true, false, true, true, true, true, true, false] _ h)
theorem am_el29_53 {args : Array Value} {s : State} (h : narrow_1.before args s = true) : (Jvm.Cond.eq (Term.elem (Term.field (Term.string "DelegationShop$Tape" 29) "java/lang/String" "value" "[B") (.int (Int32.ofNat 53))) (.int (am_y29.getD 53 0))).before args s = true := (am_go_before [false, true, true, false, true, true, true, true, true, true] _ h)
theorem am_el29_54 {args : Array Value} {s : State} (h : narrow_1.before args s = true) : (Jvm.Cond.eq (Term.elem (Term.field (Term.string "DelegationShop$Tape" 29) "java/lang/String" "value" "[B") (.int (Int32.ofNat 54))) (.int (am_y29.getD 54 0))).before args s = true := (am_go_before [false, true, true, true, false, false, false, false, false] _ h)
theorem am_el29_55 {args : Array Value} {s : State} (h : narrow_1.before args s = true) : (Jvm.Cond.eq (Term.elem (Term.field (Term.string "DelegationShop$Tape" 29) "java/lang/String" "value" "[B") (.int (Int32.ofNat 55))) (.int (am_y29.getD 55 0))).before args s = true := (am_go_before [false, true, true, true, false, false, false, false, true] _ h)
theorem am_el29_56 {args : Array Value} {s : State} (h : narrow_1.before args s = true) : (Jvm.Cond.eq (Term.elem (Term.field (Term.string "DelegationShop$Tape" 29) "java/lang/String" "value" "[B") (.int (Int32.ofNat 56))) (.int (am_y29.getD 56 0))).before args s = true := (am_go_before [false, true, true, true, false, false, false, true, false] _ h)
theorem am_el29_57 {args : Array Value} {s : State} (h : narrow_1.before args s = true) : (Jvm.Cond.eq (Term.elem (Term.field (Term.string "DelegationShop$Tape" 29) "java/lang/String" "value" "[B") (.int (Int32.ofNat 57))) (.int (am_y29.getD 57 0))).before args s = true := (am_go_before [false, true, true, true, false, false, false, true, true, false] _ h)
theorem am_el29_58 {args : Array Value} {s : State} (h : narrow_1.before args s = true) : (Jvm.Cond.eq (Term.elem (Term.field (Term.string "DelegationShop$Tape" 29) "java/lang/String" "value" "[B") (.int (Int32.ofNat 58))) (.int (am_y29.getD 58 0))).before args s = true := (am_go_before [false, true, true, true, false, false, false, true, true, true] _ h)
theorem am_el29_59 {args : Array Value} {s : State} (h : narrow_1.before args s = true) : (Jvm.Cond.eq (Term.elem (Term.field (Term.string "DelegationShop$Tape" 29) "java/lang/String" "value" "[B") (.int (Int32.ofNat 59))) (.int (am_y29.getD 59 0))).before args s = true := (am_go_before [false, true, true, true, false, false, true, false, false] _ h)
theorem am_el29_60 {args : Array Value} {s : State} (h : narrow_1.before args s = true) : (Jvm.Cond.eq (Term.elem (Term.field (Term.string "DelegationShop$Tape" 29) "java/lang/String" "value" "[B") (.int (Int32.ofNat 60))) (.int (am_y29.getD 60 0))).before args s = true := (am_go_before [false, true, true, true, false, false, true, false, true, false] _ h)
theorem am_el29_61 {args : Array Value} {s : State} (h : narrow_1.before args s = true) : (Jvm.Cond.eq (Term.elem (Term.field (Term.string "DelegationShop$Tape" 29) "java/lang/String" "value" "[B") (.int (Int32.ofNat 61))) (.int (am_y29.getD 61 0))).before args s = true := (am_go_before [false, true, true, true, false, false, true, false, true, true] _ h)
theorem am_el29_62 {args : Array Value} {s : State} (h : narrow_1.before args s = true) : (Jvm.Cond.eq (Term.elem (Term.field (Term.string "DelegationShop$Tape" 29) "java/lang/String" "value" "[B") (.int (Int32.ofNat 62))) (.int (am_y29.getD 62 0))).before args s = true := (am_go_before [false, true, true, true, false, false, true, true, false] _ h)
theorem am_el29_63 {args : Array Value} {s : State} (h : narrow_1.before args s = true) : (Jvm.Cond.eq (Term.elem (Term.field (Term.string "DelegationShop$Tape" 29) "java/lang/String" "value" "[B") (.int (Int32.ofNat 63))) (.int (am_y29.getD 63 0))).before args s = true := (am_go_before [false, true, true, true, false, false, true, true, true, false] _ h)
theorem am_el29_64 {args : Array Value} {s : State} (h : narrow_1.before args s = true) : (Jvm.Cond.eq (Term.elem (Term.field (Term.string "DelegationShop$Tape" 29) "java/lang/String" "value" "[B") (.int (Int32.ofNat 64))) (.int (am_y29.getD 64 0))).before args s = true := (am_go_before [false, true, true, true, false, false, true, true, true, true] _ h)
theorem am_el29_65 {args : Array Value} {s : State} (h : narrow_1.before args s = true) : (Jvm.Cond.eq (Term.elem (Term.field (Term.string "DelegationShop$Tape" 29) "java/lang/String" "value" "[B") (.int (Int32.ofNat 65))) (.int (am_y29.getD 65 0))).before args s = true := (am_go_before [false, true, true, true, false, true, false, false, false] _ h)
theorem am_el29_66 {args : Array Value} {s : State} (h : narrow_1.before args s = true) : (Jvm.Cond.eq (Term.elem (Term.field (Term.string "DelegationShop$Tape" 29) "java/lang/String" "value" "[B") (.int (Int32.ofNat 66))) (.int (am_y29.getD 66 0))).before args s = true := (am_go_before [false, true, true, true, false, true, false, false, true, false] _ h)
theorem am_el29_67 {args : Array Value} {s : State} (h : narrow_1.before args s = true) : (Jvm.Cond.eq (Term.elem (Term.field (Term.string "DelegationShop$Tape" 29) "java/lang/String" "value" "[B") (.int (Int32.ofNat 67))) (.int (am_y29.getD 67 0))).before args s = true := (am_go_before [false, true, true, true, false, true, false, false, true, true] _ h)
theorem am_el29_68 {args : Array Value} {s : State} (h : narrow_1.before args s = true) : (Jvm.Cond.eq (Term.elem (Term.field (Term.string "DelegationShop$Tape" 29) "java/lang/String" "value" "[B") (.int (Int32.ofNat 68))) (.int (am_y29.getD 68 0))).before args s = true := (am_go_before [false, true, true, true, false, true, false, true, false] _ h)
theorem am_el29_69 {args : Array Value} {s : State} (h : narrow_1.before args s = true) : (Jvm.Cond.eq (Term.elem (Term.field (Term.string "DelegationShop$Tape" 29) "java/lang/String" "value" "[B") (.int (Int32.ofNat 69))) (.int (am_y29.getD 69 0))).before args s = true := (am_go_before [false, true, true, true, false, true, false, true, true, false] _ h)
theorem am_el29_70 {args : Array Value} {s : State} (h : narrow_1.before args s = true) : (Jvm.Cond.eq (Term.elem (Term.field (Term.string "DelegationShop$Tape" 29) "java/lang/String" "value" "[B") (.int (Int32.ofNat 70))) (.int (am_y29.getD 70 0))).before args s = true := (am_go_before [false, true, true, true, false, true, false, true, true, true] _ h)
theorem am_el29_71 {args : Array Value} {s : State} (h : narrow_1.before args s = true) : (Jvm.Cond.eq (Term.elem (Term.field (Term.string "DelegationShop$Tape" 29) "java/lang/String" "value" "[B") (.int (Int32.ofNat 71))) (.int (am_y29.getD 71 0))).before args s = true := (am_go_before [false, true, true, true, false, true, true, false, false] _ h)
theorem am_el29_72 {args : Array Value} {s : State} (h : narrow_1.before args s = true) : (Jvm.Cond.eq (Term.elem (Term.field (Term.string "DelegationShop$Tape" 29) "java/lang/String" "value" "[B") (.int (Int32.ofNat 72))) (.int (am_y29.getD 72 0))).before args s = true := (am_go_before [false, true, true, true, false, true, true, false, true, false] _ h)
theorem am_el29_73 {args : Array Value} {s : State} (h : narrow_1.before args s = true) : (Jvm.Cond.eq (Term.elem (Term.field (Term.string "DelegationShop$Tape" 29) "java/lang/String" "value" "[B") (.int (Int32.ofNat 73))) (.int (am_y29.getD 73 0))).before args s = true := (am_go_before [false, true, true, true, false, true, true, false, true, true] _ h)
theorem am_el29_74 {args : Array Value} {s : State} (h : narrow_1.before args s = true) : (Jvm.Cond.eq (Term.elem (Term.field (Term.string "DelegationShop$Tape" 29) "java/lang/String" "value" "[B") (.int (Int32.ofNat 74))) (.int (am_y29.getD 74 0))).before args s = true := (am_go_before [false, true, true, true, false, true, true, true, false] _ h)
theorem am_el29_75 {args : Array Value} {s : State} (h : narrow_1.before args s = true) : (Jvm.Cond.eq (Term.elem (Term.field (Term.string "DelegationShop$Tape" 29) "java/lang/String" "value" "[B") (.int (Int32.ofNat 75))) (.int (am_y29.getD 75 0))).before args s = true := (am_go_before [false, true, true, true, false, true, true, true, true, false] _ h)
theorem am_el29_76 {args : Array Value} {s : State} (h : narrow_1.before args s = true) : (Jvm.Cond.eq (Term.elem (Term.field (Term.string "DelegationShop$Tape" 29) "java/lang/String" "value" "[B") (.int (Int32.ofNat 76))) (.int (am_y29.getD 76 0))).before args s = true := (am_go_before [false, true, true, true, false, true, true, true, true, true] _ h)
theorem am_el29_77 {args : Array Value} {s : State} (h : narrow_1.before args s = true) : (Jvm.Cond.eq (Term.elem (Term.field (Term.string "DelegationShop$Tape" 29) "java/lang/String" "value" "[B") (.int (Int32.ofNat 77))) (.int (am_y29.getD 77 0))).before args s = true := (am_go_before [false, true, true, true, true, false, false, false, false] _ h)
theorem am_el29_78 {args : Array Value} {s : State} (h : narrow_1.before args s = true) : (Jvm.Cond.eq (Term.elem (Term.field (Term.string "DelegationShop$Tape" 29) "java/lang/String" "value" "[B") (.int (Int32.ofNat 78))) (.int (am_y29.getD 78 0))).before args s = true := (am_go_before [false, true, true, true, true, false, false, false, true] _ h)
theorem am_el29_79 {args : Array Value} {s : State} (h : narrow_1.before args s = true) : (Jvm.Cond.eq (Term.elem (Term.field (Term.string "DelegationShop$Tape" 29) "java/lang/String" "value" "[B") (.int (Int32.ofNat 79))) (.int (am_y29.getD 79 0))).before args s = true := (am_go_before [false, true, true, true, true, false, false, true, false] _ h)
theorem am_el29_80 {args : Array Value} {s : State} (h : narrow_1.before args s = true) : (Jvm.Cond.eq (Term.elem (Term.field (Term.string "DelegationShop$Tape" 29) "java/lang/String" "value" "[B") (.int (Int32.ofNat 80))) (.int (am_y29.getD 80 0))).before args s = true := (am_go_before [false, true, true, true, true, false, false, true, true, false] _ h)
theorem am_el29_81 {args : Array Value} {s : State} (h : narrow_1.before args s = true) : (Jvm.Cond.eq (Term.elem (Term.field (Term.string "DelegationShop$Tape" 29) "java/lang/String" "value" "[B") (.int (Int32.ofNat 81))) (.int (am_y29.getD 81 0))).before args s = true := (am_go_before [false, true, true, true, true, false, false, true, true, true] _ h)
theorem am_el29_82 {args : Array Value} {s : State} (h : narrow_1.before args s = true) : (Jvm.Cond.eq (Term.elem (Term.field (Term.string "DelegationShop$Tape" 29) "java/lang/String" "value" "[B") (.int (Int32.ofNat 82))) (.int (am_y29.getD 82 0))).before args s = true := (am_go_before [false, true, true, true, true, false, true, false, false] _ h)
theorem am_el29_83 {args : Array Value} {s : State} (h : narrow_1.before args s = true) : (Jvm.Cond.eq (Term.elem (Term.field (Term.string "DelegationShop$Tape" 29) "java/lang/String" "value" "[B") (.int (Int32.ofNat 83))) (.int (am_y29.getD 83 0))).before args s = true := (am_go_before [false, true, true, true, true, false, true, false, true, false] _ h)
theorem am_el29_84 {args : Array Value} {s : State} (h : narrow_1.before args s = true) : (Jvm.Cond.eq (Term.elem (Term.field (Term.string "DelegationShop$Tape" 29) "java/lang/String" "value" "[B") (.int (Int32.ofNat 84))) (.int (am_y29.getD 84 0))).before args s = true := (am_go_before [false, true, true, true, true, false, true, false, true, true] _ h)
theorem am_el29_85 {args : Array Value} {s : State} (h : narrow_1.before args s = true) : (Jvm.Cond.eq (Term.elem (Term.field (Term.string "DelegationShop$Tape" 29) "java/lang/String" "value" "[B") (.int (Int32.ofNat 85))) (.int (am_y29.getD 85 0))).before args s = true := (am_go_before [false, true, true, true, true, false, true, true, false] _ h)
theorem am_el29_86 {args : Array Value} {s : State} (h : narrow_1.before args s = true) : (Jvm.Cond.eq (Term.elem (Term.field (Term.string "DelegationShop$Tape" 29) "java/lang/String" "value" "[B") (.int (Int32.ofNat 86))) (.int (am_y29.getD 86 0))).before args s = true := (am_go_before [false, true, true, true, true, false, true, true, true, false] _ h)
theorem am_el29_87 {args : Array Value} {s : State} (h : narrow_1.before args s = true) : (Jvm.Cond.eq (Term.elem (Term.field (Term.string "DelegationShop$Tape" 29) "java/lang/String" "value" "[B") (.int (Int32.ofNat 87))) (.int (am_y29.getD 87 0))).before args s = true := (am_go_before [false, true, true, true, true, false, true, true, true, true] _ h)
theorem am_el29_88 {args : Array Value} {s : State} (h : narrow_1.before args s = true) : (Jvm.Cond.eq (Term.elem (Term.field (Term.string "DelegationShop$Tape" 29) "java/lang/String" "value" "[B") (.int (Int32.ofNat 88))) (.int (am_y29.getD 88 0))).before args s = true := (am_go_before [false, true, true, true, true, true, false, false, false] _ h)
theorem am_el29_89 {args : Array Value} {s : State} (h : narrow_1.before args s = true) : (Jvm.Cond.eq (Term.elem (Term.field (Term.string "DelegationShop$Tape" 29) "java/lang/String" "value" "[B") (.int (Int32.ofNat 89))) (.int (am_y29.getD 89 0))).before args s = true := (am_go_before [false, true, true, true, true, true, false, false, true, false] _ h)
theorem am_el29_90 {args : Array Value} {s : State} (h : narrow_1.before args s = true) : (Jvm.Cond.eq (Term.elem (Term.field (Term.string "DelegationShop$Tape" 29) "java/lang/String" "value" "[B") (.int (Int32.ofNat 90))) (.int (am_y29.getD 90 0))).before args s = true := (am_go_before [false, true, true, true, true, true, false, false, true, true] _ h)
theorem am_el29_91 {args : Array Value} {s : State} (h : narrow_1.before args s = true) : (Jvm.Cond.eq (Term.elem (Term.field (Term.string "DelegationShop$Tape" 29) "java/lang/String" "value" "[B") (.int (Int32.ofNat 91))) (.int (am_y29.getD 91 0))).before args s = true := (am_go_before [false, true, true, true, true, true, false, true, false] _ h)
theorem am_el29_92 {args : Array Value} {s : State} (h : narrow_1.before args s = true) : (Jvm.Cond.eq (Term.elem (Term.field (Term.string "DelegationShop$Tape" 29) "java/lang/String" "value" "[B") (.int (Int32.ofNat 92))) (.int (am_y29.getD 92 0))).before args s = true := (am_go_before [false, true, true, true, true, true, false, true, true, false] _ h)
theorem am_el29_93 {args : Array Value} {s : State} (h : narrow_1.before args s = true) : (Jvm.Cond.eq (Term.elem (Term.field (Term.string "DelegationShop$Tape" 29) "java/lang/String" "value" "[B") (.int (Int32.ofNat 93))) (.int (am_y29.getD 93 0))).before args s = true := (am_go_before [false, true, true, true, true, true, false, true, true, true] _ h)
theorem am_el29_94 {args : Array Value} {s : State} (h : narrow_1.before args s = true) : (Jvm.Cond.eq (Term.elem (Term.field (Term.string "DelegationShop$Tape" 29) "java/lang/String" "value" "[B") (.int (Int32.ofNat 94))) (.int (am_y29.getD 94 0))).before args s = true := (am_go_before [false, true, true, true, true, true, true, false, false] _ h)
theorem am_el29_95 {args : Array Value} {s : State} (h : narrow_1.before args s = true) : (Jvm.Cond.eq (Term.elem (Term.field (Term.string "DelegationShop$Tape" 29) "java/lang/String" "value" "[B") (.int (Int32.ofNat 95))) (.int (am_y29.getD 95 0))).before args s = true := (am_go_before [false, true, true, true, true, true, true, false, true, false] _ h)
theorem am_el29_96 {args : Array Value} {s : State} (h : narrow_1.before args s = true) : (Jvm.Cond.eq (Term.elem (Term.field (Term.string "DelegationShop$Tape" 29) "java/lang/String" "value" "[B") (.int (Int32.ofNat 96))) (.int (am_y29.getD 96 0))).before args s = true := (am_go_before [false, true, true, true, true, true, true, false, true, true] _ h)
theorem am_el29_97 {args : Array Value} {s : State} (h : narrow_1.before args s = true) : (Jvm.Cond.eq (Term.elem (Term.field (Term.string "DelegationShop$Tape" 29) "java/lang/String" "value" "[B") (.int (Int32.ofNat 97))) (.int (am_y29.getD 97 0))).before args s = true := (am_go_before [false, true, true, true, true, true, true, true, false] _ h)
theorem am_el29_98 {args : Array Value} {s : State} (h : narrow_1.before args s = true) : (Jvm.Cond.eq (Term.elem (Term.field (Term.string "DelegationShop$Tape" 29) "java/lang/String" "value" "[B") (.int (Int32.ofNat 98))) (.int (am_y29.getD 98 0))).before args s = true := (am_go_before [false, true, true, true, true, true, true, true, true, false] _ h)
theorem am_el29_99 {args : Array Value} {s : State} (h : narrow_1.before args s = true) : (Jvm.Cond.eq (Term.elem (Term.field (Term.string "DelegationShop$Tape" 29) "java/lang/String" "value" "[B") (.int (Int32.ofNat 99))) (.int (am_y29.getD 99 0))).before args s = true := (am_go_before [false, true, true, true, true, true, true, true, true, true] _ h)
theorem am_el29_100 {args : Array Value} {s : State} (h : narrow_1.before args s = true) : (Jvm.Cond.eq (Term.elem (Term.field (Term.string "DelegationShop$Tape" 29) "java/lang/String" "value" "[B") (.int (Int32.ofNat 100))) (.int (am_y29.getD 100 0))).before args s = true := (am_go_before [true, false, false, false, false, false, false, false, false] _ h)
theorem am_el29_101 {args : Array Value} {s : State} (h : narrow_1.before args s = true) : (Jvm.Cond.eq (Term.elem (Term.field (Term.string "DelegationShop$Tape" 29) "java/lang/String" "value" "[B") (.int (Int32.ofNat 101))) (.int (am_y29.getD 101 0))).before args s = true := (am_go_before [true, false, false, false, false, false, false, false, true] _ h)
theorem am_el29_102 {args : Array Value} {s : State} (h : narrow_1.before args s = true) : (Jvm.Cond.eq (Term.elem (Term.field (Term.string "DelegationShop$Tape" 29) "java/lang/String" "value" "[B") (.int (Int32.ofNat 102))) (.int (am_y29.getD 102 0))).before args s = true := (am_go_before [true, false, false, false, false, false, false, true, false] _ h)
theorem am_el29_103 {args : Array Value} {s : State} (h : narrow_1.before args s = true) : (Jvm.Cond.eq (Term.elem (Term.field (Term.string "DelegationShop$Tape" 29) "java/lang/String" "value" "[B") (.int (Int32.ofNat 103))) (.int (am_y29.getD 103 0))).before args s = true := (am_go_before [true, false, false, false, false, false, false, true, true, false] _ h)
theorem am_el29_104 {args : Array Value} {s : State} (h : narrow_1.before args s = true) : (Jvm.Cond.eq (Term.elem (Term.field (Term.string "DelegationShop$Tape" 29) "java/lang/String" "value" "[B") (.int (Int32.ofNat 104))) (.int (am_y29.getD 104 0))).before args s = true := (am_go_before [true, false, false, false, false, false, false, true, true, true] _ h)
theorem am_el29_105 {args : Array Value} {s : State} (h : narrow_1.before args s = true) : (Jvm.Cond.eq (Term.elem (Term.field (Term.string "DelegationShop$Tape" 29) "java/lang/String" "value" "[B") (.int (Int32.ofNat 105))) (.int (am_y29.getD 105 0))).before args s = true := (am_go_before [true, false, false, false, false, false, true, false, false] _ h)
theorem am_el29_106 {args : Array Value} {s : State} (h : narrow_1.before args s = true) : (Jvm.Cond.eq (Term.elem (Term.field (Term.string "DelegationShop$Tape" 29) "java/lang/String" "value" "[B") (.int (Int32.ofNat 106))) (.int (am_y29.getD 106 0))).before args s = true := (am_go_before [true, false, false, false, false, false, true, false, true, false] _ h)
theorem am_el29_107 {args : Array Value} {s : State} (h : narrow_1.before args s = true) : (Jvm.Cond.eq (Term.elem (Term.field (Term.string "DelegationShop$Tape" 29) "java/lang/String" "value" "[B") (.int (Int32.ofNat 107))) (.int (am_y29.getD 107 0))).before args s = true := (am_go_before [true, false, false, false, false, false, true, false, true, true] _ h)
theorem am_el29_108 {args : Array Value} {s : State} (h : narrow_1.before args s = true) : (Jvm.Cond.eq (Term.elem (Term.field (Term.string "DelegationShop$Tape" 29) "java/lang/String" "value" "[B") (.int (Int32.ofNat 108))) (.int (am_y29.getD 108 0))).before args s = true := (am_go_before [true, false, false, false, false, false, true, true, false] _ h)
theorem am_el29_109 {args : Array Value} {s : State} (h : narrow_1.before args s = true) : (Jvm.Cond.eq (Term.elem (Term.field (Term.string "DelegationShop$Tape" 29) "java/lang/String" "value" "[B") (.int (Int32.ofNat 109))) (.int (am_y29.getD 109 0))).before args s = true := (am_go_before [true, false, false, false, false, false, true, true, true, false] _ h)
theorem am_el29_110 {args : Array Value} {s : State} (h : narrow_1.before args s = true) : (Jvm.Cond.eq (Term.elem (Term.field (Term.string "DelegationShop$Tape" 29) "java/lang/String" "value" "[B") (.int (Int32.ofNat 110))) (.int (am_y29.getD 110 0))).before args s = true := (am_go_before [true, false, false, false, false, false, true, true, true, true] _ h)
theorem am_el29_111 {args : Array Value} {s : State} (h : narrow_1.before args s = true) : (Jvm.Cond.eq (Term.elem (Term.field (Term.string "DelegationShop$Tape" 29) "java/lang/String" "value" "[B") (.int (Int32.ofNat 111))) (.int (am_y29.getD 111 0))).before args s = true := (am_go_before [true, false, false, false, false, true, false, false, false] _ h)
theorem am_el29_112 {args : Array Value} {s : State} (h : narrow_1.before args s = true) : (Jvm.Cond.eq (Term.elem (Term.field (Term.string "DelegationShop$Tape" 29) "java/lang/String" "value" "[B") (.int (Int32.ofNat 112))) (.int (am_y29.getD 112 0))).before args s = true := (am_go_before [true, false, false, false, false, true, false, false, true, false] _ h)
theorem am_el29_113 {args : Array Value} {s : State} (h : narrow_1.before args s = true) : (Jvm.Cond.eq (Term.elem (Term.field (Term.string "DelegationShop$Tape" 29) "java/lang/String" "value" "[B") (.int (Int32.ofNat 113))) (.int (am_y29.getD 113 0))).before args s = true := (am_go_before [true, false, false, false, false, true, false, false, true, true] _ h)
theorem am_el29_114 {args : Array Value} {s : State} (h : narrow_1.before args s = true) : (Jvm.Cond.eq (Term.elem (Term.field (Term.string "DelegationShop$Tape" 29) "java/lang/String" "value" "[B") (.int (Int32.ofNat 114))) (.int (am_y29.getD 114 0))).before args s = true := (am_go_before [true, false, false, false, false, true, false, true, false] _ h)
theorem am_el29_115 {args : Array Value} {s : State} (h : narrow_1.before args s = true) : (Jvm.Cond.eq (Term.elem (Term.field (Term.string "DelegationShop$Tape" 29) "java/lang/String" "value" "[B") (.int (Int32.ofNat 115))) (.int (am_y29.getD 115 0))).before args s = true := (am_go_before [true, false, false, false, false, true, false, true, true, false] _ h)
theorem am_el29_116 {args : Array Value} {s : State} (h : narrow_1.before args s = true) : (Jvm.Cond.eq (Term.elem (Term.field (Term.string "DelegationShop$Tape" 29) "java/lang/String" "value" "[B") (.int (Int32.ofNat 116))) (.int (am_y29.getD 116 0))).before args s = true := (am_go_before [true, false, false, false, false, true, false, true, true, true] _ h)
theorem am_el29_117 {args : Array Value} {s : State} (h : narrow_1.before args s = true) : (Jvm.Cond.eq (Term.elem (Term.field (Term.string "DelegationShop$Tape" 29) "java/lang/String" "value" "[B") (.int (Int32.ofNat 117))) (.int (am_y29.getD 117 0))).before args s = true := (am_go_before [true, false, false, false, false, true, true, false, false] _ h)
theorem am_el29_118 {args : Array Value} {s : State} (h : narrow_1.before args s = true) : (Jvm.Cond.eq (Term.elem (Term.field (Term.string "DelegationShop$Tape" 29) "java/lang/String" "value" "[B") (.int (Int32.ofNat 118))) (.int (am_y29.getD 118 0))).before args s = true := (am_go_before [true, false, false, false, false, true, true, false, true, false] _ h)
theorem am_el29_119 {args : Array Value} {s : State} (h : narrow_1.before args s = true) : (Jvm.Cond.eq (Term.elem (Term.field (Term.string "DelegationShop$Tape" 29) "java/lang/String" "value" "[B") (.int (Int32.ofNat 119))) (.int (am_y29.getD 119 0))).before args s = true := (am_go_before [true, false, false, false, false, true, true, false, true, true] _ h)
theorem am_el29_120 {args : Array Value} {s : State} (h : narrow_1.before args s = true) : (Jvm.Cond.eq (Term.elem (Term.field (Term.string "DelegationShop$Tape" 29) "java/lang/String" "value" "[B") (.int (Int32.ofNat 120))) (.int (am_y29.getD 120 0))).before args s = true := (am_go_before [true, false, false, false, false, true, true, true, false] _ h)
theorem am_el29_121 {args : Array Value} {s : State} (h : narrow_1.before args s = true) : (Jvm.Cond.eq (Term.elem (Term.field (Term.string "DelegationShop$Tape" 29) "java/lang/String" "value" "[B") (.int (Int32.ofNat 121))) (.int (am_y29.getD 121 0))).before args s = true := (am_go_before [true, false, false, false, false, true, true, true, true, false] _ h)
theorem am_el29_122 {args : Array Value} {s : State} (h : narrow_1.before args s = true) : (Jvm.Cond.eq (Term.elem (Term.field (Term.string "DelegationShop$Tape" 29) "java/lang/String" "value" "[B") (.int (Int32.ofNat 122))) (.int (am_y29.getD 122 0))).before args s = true := (am_go_before [true, false, false, false, false, true, true, true, true, true] _ h)
theorem am_el29_123 {args : Array Value} {s : State} (h : narrow_1.before args s = true) : (Jvm.Cond.eq (Term.elem (Term.field (Term.string "DelegationShop$Tape" 29) "java/lang/String" "value" "[B") (.int (Int32.ofNat 123))) (.int (am_y29.getD 123 0))).before args s = true := (am_go_before [true, false, false, false, true, false, false, false, false] _ h)
theorem am_el29_124 {args : Array Value} {s : State} (h : narrow_1.before args s = true) : (Jvm.Cond.eq (Term.elem (Term.field (Term.string "DelegationShop$Tape" 29) "java/lang/String" "value" "[B") (.int (Int32.ofNat 124))) (.int (am_y29.getD 124 0))).before args s = true := (am_go_before [true, false, false, false, true, false, false, false, true] _ h)
theorem am_el29_125 {args : Array Value} {s : State} (h : narrow_1.before args s = true) : (Jvm.Cond.eq (Term.elem (Term.field (Term.string "DelegationShop$Tape" 29) "java/lang/String" "value" "[B") (.int (Int32.ofNat 125))) (.int (am_y29.getD 125 0))).before args s = true := (am_go_before [true, false, false, false, true, false, false, true, false] _ h)
theorem am_el29_126 {args : Array Value} {s : State} (h : narrow_1.before args s = true) : (Jvm.Cond.eq (Term.elem (Term.field (Term.string "DelegationShop$Tape" 29) "java/lang/String" "value" "[B") (.int (Int32.ofNat 126))) (.int (am_y29.getD 126 0))).before args s = true := (am_go_before [true, false, false, false, true, false, false, true, true, false] _ h)
theorem am_el29 {args : Array Value} {s : State} (h : narrow_1.before args s = true) : ∀ j, j < 127 → (Jvm.Cond.eq (Term.elem (Term.field (Term.string "DelegationShop$Tape" 29) "java/lang/String" "value" "[B") (.int (Int32.ofNat j))) (.int (am_y29.getD j 0))).before args s = true
  | 0, _ => am_el29_0 h
  | 1, _ => am_el29_1 h
  | 2, _ => am_el29_2 h
  | 3, _ => am_el29_3 h
  | 4, _ => am_el29_4 h
  | 5, _ => am_el29_5 h
  | 6, _ => am_el29_6 h
  | 7, _ => am_el29_7 h
  | 8, _ => am_el29_8 h
  | 9, _ => am_el29_9 h
  | 10, _ => am_el29_10 h
  | 11, _ => am_el29_11 h
  | 12, _ => am_el29_12 h
  | 13, _ => am_el29_13 h
  | 14, _ => am_el29_14 h
  | 15, _ => am_el29_15 h
  | 16, _ => am_el29_16 h
  | 17, _ => am_el29_17 h
  | 18, _ => am_el29_18 h
  | 19, _ => am_el29_19 h
  | 20, _ => am_el29_20 h
  | 21, _ => am_el29_21 h
  | 22, _ => am_el29_22 h
  | 23, _ => am_el29_23 h
  | 24, _ => am_el29_24 h
  | 25, _ => am_el29_25 h
  | 26, _ => am_el29_26 h
  | 27, _ => am_el29_27 h
  | 28, _ => am_el29_28 h
  | 29, _ => am_el29_29 h
  | 30, _ => am_el29_30 h
  | 31, _ => am_el29_31 h
  | 32, _ => am_el29_32 h
  | 33, _ => am_el29_33 h
  | 34, _ => am_el29_34 h
  | 35, _ => am_el29_35 h
  | 36, _ => am_el29_36 h
  | 37, _ => am_el29_37 h
  | 38, _ => am_el29_38 h
  | 39, _ => am_el29_39 h
  | 40, _ => am_el29_40 h
  | 41, _ => am_el29_41 h
  | 42, _ => am_el29_42 h
  | 43, _ => am_el29_43 h
  | 44, _ => am_el29_44 h
  | 45, _ => am_el29_45 h
  | 46, _ => am_el29_46 h
  | 47, _ => am_el29_47 h
  | 48, _ => am_el29_48 h
  | 49, _ => am_el29_49 h
  | 50, _ => am_el29_50 h
  | 51, _ => am_el29_51 h
  | 52, _ => am_el29_52 h
  | 53, _ => am_el29_53 h
  | 54, _ => am_el29_54 h
  | 55, _ => am_el29_55 h
  | 56, _ => am_el29_56 h
  | 57, _ => am_el29_57 h
  | 58, _ => am_el29_58 h
  | 59, _ => am_el29_59 h
  | 60, _ => am_el29_60 h
  | 61, _ => am_el29_61 h
  | 62, _ => am_el29_62 h
  | 63, _ => am_el29_63 h
  | 64, _ => am_el29_64 h
  | 65, _ => am_el29_65 h
  | 66, _ => am_el29_66 h
  | 67, _ => am_el29_67 h
  | 68, _ => am_el29_68 h
  | 69, _ => am_el29_69 h
  | 70, _ => am_el29_70 h
  | 71, _ => am_el29_71 h
  | 72, _ => am_el29_72 h
  | 73, _ => am_el29_73 h
  | 74, _ => am_el29_74 h
  | 75, _ => am_el29_75 h
  | 76, _ => am_el29_76 h
  | 77, _ => am_el29_77 h
  | 78, _ => am_el29_78 h
  | 79, _ => am_el29_79 h
  | 80, _ => am_el29_80 h
  | 81, _ => am_el29_81 h
  | 82, _ => am_el29_82 h
  | 83, _ => am_el29_83 h
  | 84, _ => am_el29_84 h
  | 85, _ => am_el29_85 h
  | 86, _ => am_el29_86 h
  | 87, _ => am_el29_87 h
  | 88, _ => am_el29_88 h
  | 89, _ => am_el29_89 h
  | 90, _ => am_el29_90 h
  | 91, _ => am_el29_91 h
  | 92, _ => am_el29_92 h
  | 93, _ => am_el29_93 h
  | 94, _ => am_el29_94 h
  | 95, _ => am_el29_95 h
  | 96, _ => am_el29_96 h
  | 97, _ => am_el29_97 h
  | 98, _ => am_el29_98 h
  | 99, _ => am_el29_99 h
  | 100, _ => am_el29_100 h
  | 101, _ => am_el29_101 h
  | 102, _ => am_el29_102 h
  | 103, _ => am_el29_103 h
  | 104, _ => am_el29_104 h
  | 105, _ => am_el29_105 h
  | 106, _ => am_el29_106 h
  | 107, _ => am_el29_107 h
  | 108, _ => am_el29_108 h
  | 109, _ => am_el29_109 h
  | 110, _ => am_el29_110 h
  | 111, _ => am_el29_111 h
  | 112, _ => am_el29_112 h
  | 113, _ => am_el29_113 h
  | 114, _ => am_el29_114 h
  | 115, _ => am_el29_115 h
  | 116, _ => am_el29_116 h
  | 117, _ => am_el29_117 h
  | 118, _ => am_el29_118 h
  | 119, _ => am_el29_119 h
  | 120, _ => am_el29_120 h
  | 121, _ => am_el29_121 h
  | 122, _ => am_el29_122 h
  | 123, _ => am_el29_123 h
  | 124, _ => am_el29_124 h
  | 125, _ => am_el29_125 h
  | 126, _ => am_el29_126 h
  | _ + 127, q => absurd q (by omega)
def am_y84 : List Int32 := [123, 125, 40, 41, 91, 93, 124, 44, 59, 46, 33, 61, 60, 62, 43, 45, 42, 47, 37]
def am_s84 : List Int := [123, 125, 40, 41, 91, 93, 124, 44, 59, 46, 33, 61, 60, 62, 43, 45, 42, 47, 37]
theorem am_ys84 : ∀ j, Int32.ofInt (am_s84.getD j 0) = am_y84.getD j 0 := by
  intro j
  by_cases hj : j < 19
  · revert hj; revert j; decide +kernel
  · rw [am_getD_ge (Nat.le_of_not_lt hj), am_getD_ge (Nat.le_of_not_lt hj)]; rfl
theorem am_ex84 {args : Array Value} {s : State} (h : narrow_1.before args s = true) : (Jvm.Cond.exactly (Term.string "DelegationShop$Tape" 84) "java/lang/String").before args s = true := (am_go_before [true, false, false, false, true, false, false, true, true, true] _ h)
theorem am_cd84 {args : Array Value} {s : State} (h : narrow_1.before args s = true) : (Jvm.Cond.eq (Term.field (Term.string "DelegationShop$Tape" 84) "java/lang/String" "coder" "B") (.int 0)).before args s = true := (am_go_before [true, false, false, false, true, false, true, false, false] _ h)
theorem am_ar84 {args : Array Value} {s : State} (h : narrow_1.before args s = true) : (Jvm.Cond.arrayOf (Term.field (Term.string "DelegationShop$Tape" 84) "java/lang/String" "value" "[B") .byte).before args s = true := (am_go_before [true, false, false, false, true, false, true, false, true, false] _ h)
theorem am_ln84 {args : Array Value} {s : State} (h : narrow_1.before args s = true) : (Jvm.Cond.eq (Term.length (Term.field (Term.string "DelegationShop$Tape" 84) "java/lang/String" "value" "[B")) (.int (Int32.ofNat 19))).before args s = true := (am_go_before [true, false, false, false, true, false, true, false, true, true] _ h)
theorem am_el84_0 {args : Array Value} {s : State} (h : narrow_1.before args s = true) : (Jvm.Cond.eq (Term.elem (Term.field (Term.string "DelegationShop$Tape" 84) "java/lang/String" "value" "[B") (.int (Int32.ofNat 0))) (.int (am_y84.getD 0 0))).before args s = true := (am_go_before [true, false, false, false, true, false, true, true, false] _ h)
theorem am_el84_1 {args : Array Value} {s : State} (h : narrow_1.before args s = true) : (Jvm.Cond.eq (Term.elem (Term.field (Term.string "DelegationShop$Tape" 84) "java/lang/String" "value" "[B") (.int (Int32.ofNat 1))) (.int (am_y84.getD 1 0))).before args s = true := (am_go_before [true, false, false, false, true, false, true, true, true, false] _ h)
theorem am_el84_2 {args : Array Value} {s : State} (h : narrow_1.before args s = true) : (Jvm.Cond.eq (Term.elem (Term.field (Term.string "DelegationShop$Tape" 84) "java/lang/String" "value" "[B") (.int (Int32.ofNat 2))) (.int (am_y84.getD 2 0))).before args s = true := (am_go_before [true, false, false, false, true, false, true, true, true, true] _ h)
theorem am_el84_3 {args : Array Value} {s : State} (h : narrow_1.before args s = true) : (Jvm.Cond.eq (Term.elem (Term.field (Term.string "DelegationShop$Tape" 84) "java/lang/String" "value" "[B") (.int (Int32.ofNat 3))) (.int (am_y84.getD 3 0))).before args s = true := (am_go_before [true, false, false, false, true, true, false, false, false] _ h)
theorem am_el84_4 {args : Array Value} {s : State} (h : narrow_1.before args s = true) : (Jvm.Cond.eq (Term.elem (Term.field (Term.string "DelegationShop$Tape" 84) "java/lang/String" "value" "[B") (.int (Int32.ofNat 4))) (.int (am_y84.getD 4 0))).before args s = true := (am_go_before [true, false, false, false, true, true, false, false, true, false] _ h)
theorem am_el84_5 {args : Array Value} {s : State} (h : narrow_1.before args s = true) : (Jvm.Cond.eq (Term.elem (Term.field (Term.string "DelegationShop$Tape" 84) "java/lang/String" "value" "[B") (.int (Int32.ofNat 5))) (.int (am_y84.getD 5 0))).before args s = true := (am_go_before [true, false, false, false, true, true, false, false, true, true] _ h)
theorem am_el84_6 {args : Array Value} {s : State} (h : narrow_1.before args s = true) : (Jvm.Cond.eq (Term.elem (Term.field (Term.string "DelegationShop$Tape" 84) "java/lang/String" "value" "[B") (.int (Int32.ofNat 6))) (.int (am_y84.getD 6 0))).before args s = true := (am_go_before [true, false, false, false, true, true, false, true, false] _ h)
theorem am_el84_7 {args : Array Value} {s : State} (h : narrow_1.before args s = true) : (Jvm.Cond.eq (Term.elem (Term.field (Term.string "DelegationShop$Tape" 84) "java/lang/String" "value" "[B") (.int (Int32.ofNat 7))) (.int (am_y84.getD 7 0))).before args s = true := (am_go_before [true, false, false, false, true, true, false, true, true, false] _ h)
theorem am_el84_8 {args : Array Value} {s : State} (h : narrow_1.before args s = true) : (Jvm.Cond.eq (Term.elem (Term.field (Term.string "DelegationShop$Tape" 84) "java/lang/String" "value" "[B") (.int (Int32.ofNat 8))) (.int (am_y84.getD 8 0))).before args s = true := (am_go_before [true, false, false, false, true, true, false, true, true, true] _ h)
theorem am_el84_9 {args : Array Value} {s : State} (h : narrow_1.before args s = true) : (Jvm.Cond.eq (Term.elem (Term.field (Term.string "DelegationShop$Tape" 84) "java/lang/String" "value" "[B") (.int (Int32.ofNat 9))) (.int (am_y84.getD 9 0))).before args s = true := (am_go_before [true, false, false, false, true, true, true, false, false] _ h)
theorem am_el84_10 {args : Array Value} {s : State} (h : narrow_1.before args s = true) : (Jvm.Cond.eq (Term.elem (Term.field (Term.string "DelegationShop$Tape" 84) "java/lang/String" "value" "[B") (.int (Int32.ofNat 10))) (.int (am_y84.getD 10 0))).before args s = true := (am_go_before [true, false, false, false, true, true, true, false, true, false] _ h)
theorem am_el84_11 {args : Array Value} {s : State} (h : narrow_1.before args s = true) : (Jvm.Cond.eq (Term.elem (Term.field (Term.string "DelegationShop$Tape" 84) "java/lang/String" "value" "[B") (.int (Int32.ofNat 11))) (.int (am_y84.getD 11 0))).before args s = true := (am_go_before [true, false, false, false, true, true, true, false, true, true] _ h)
theorem am_el84_12 {args : Array Value} {s : State} (h : narrow_1.before args s = true) : (Jvm.Cond.eq (Term.elem (Term.field (Term.string "DelegationShop$Tape" 84) "java/lang/String" "value" "[B") (.int (Int32.ofNat 12))) (.int (am_y84.getD 12 0))).before args s = true := (am_go_before [true, false, false, false, true, true, true, true, false] _ h)
theorem am_el84_13 {args : Array Value} {s : State} (h : narrow_1.before args s = true) : (Jvm.Cond.eq (Term.elem (Term.field (Term.string "DelegationShop$Tape" 84) "java/lang/String" "value" "[B") (.int (Int32.ofNat 13))) (.int (am_y84.getD 13 0))).before args s = true := (am_go_before [true, false, false, false, true, true, true, true, true, false] _ h)
theorem am_el84_14 {args : Array Value} {s : State} (h : narrow_1.before args s = true) : (Jvm.Cond.eq (Term.elem (Term.field (Term.string "DelegationShop$Tape" 84) "java/lang/String" "value" "[B") (.int (Int32.ofNat 14))) (.int (am_y84.getD 14 0))).before args s = true := (am_go_before [true, false, false, false, true, true, true, true, true, true] _ h)
theorem am_el84_15 {args : Array Value} {s : State} (h : narrow_1.before args s = true) : (Jvm.Cond.eq (Term.elem (Term.field (Term.string "DelegationShop$Tape" 84) "java/lang/String" "value" "[B") (.int (Int32.ofNat 15))) (.int (am_y84.getD 15 0))).before args s = true := (am_go_before [true, false, false, true, false, false, false, false, false] _ h)
theorem am_el84_16 {args : Array Value} {s : State} (h : narrow_1.before args s = true) : (Jvm.Cond.eq (Term.elem (Term.field (Term.string "DelegationShop$Tape" 84) "java/lang/String" "value" "[B") (.int (Int32.ofNat 16))) (.int (am_y84.getD 16 0))).before args s = true := (am_go_before [true, false, false, true, false, false, false, false, true] _ h)
theorem am_el84_17 {args : Array Value} {s : State} (h : narrow_1.before args s = true) : (Jvm.Cond.eq (Term.elem (Term.field (Term.string "DelegationShop$Tape" 84) "java/lang/String" "value" "[B") (.int (Int32.ofNat 17))) (.int (am_y84.getD 17 0))).before args s = true := (am_go_before [true, false, false, true, false, false, false, true, false] _ h)
theorem am_el84_18 {args : Array Value} {s : State} (h : narrow_1.before args s = true) : (Jvm.Cond.eq (Term.elem (Term.field (Term.string "DelegationShop$Tape" 84) "java/lang/String" "value" "[B") (.int (Int32.ofNat 18))) (.int (am_y84.getD 18 0))).before args s = true := (am_go_before [true, false, false, true, false, false, false, true, true, false] _ h)
theorem am_el84 {args : Array Value} {s : State} (h : narrow_1.before args s = true) : ∀ j, j < 19 → (Jvm.Cond.eq (Term.elem (Term.field (Term.string "DelegationShop$Tape" 84) "java/lang/String" "value" "[B") (.int (Int32.ofNat j))) (.int (am_y84.getD j 0))).before args s = true
  | 0, _ => am_el84_0 h
  | 1, _ => am_el84_1 h
  | 2, _ => am_el84_2 h
  | 3, _ => am_el84_3 h
  | 4, _ => am_el84_4 h
  | 5, _ => am_el84_5 h
  | 6, _ => am_el84_6 h
  | 7, _ => am_el84_7 h
  | 8, _ => am_el84_8 h
  | 9, _ => am_el84_9 h
  | 10, _ => am_el84_10 h
  | 11, _ => am_el84_11 h
  | 12, _ => am_el84_12 h
  | 13, _ => am_el84_13 h
  | 14, _ => am_el84_14 h
  | 15, _ => am_el84_15 h
  | 16, _ => am_el84_16 h
  | 17, _ => am_el84_17 h
  | 18, _ => am_el84_18 h
  | _ + 19, q => absurd q (by omega)
theorem am_cmp0 {args : Array Value} {s : State} (h : narrow_1.before args s = true) : (Jvm.Cond.eq (Term.static "java/lang/String" "COMPACT_STRINGS" "Z") (.int 1)).before args s = true := (am_go_before [false, false, false, false, false, false, false, true, false] _ h)
theorem am_irF {args : Array Value} {s : State} (h : narrow_1.before args s = true) : (Jvm.Cond.isRef (Term.static "jdk/internal/util/Preconditions" "SIOOBE_FORMATTER" "Ljava/util/function/BiFunction;")).before args s = true := (am_go_before [false, false, false, false, false, false, false, true, true, false] _ h)
theorem am_irU {args : Array Value} {s : State} (h : narrow_1.before args s = true) : (Jvm.Cond.isRef (Term.static "java/lang/Throwable" "UNASSIGNED_STACK" "[Ljava/lang/StackTraceElement;")).before args s = true := (am_go_before [false, false, false, false, false, false, true, false, true, true] _ h)
theorem am_irS {args : Array Value} {s : State} (h : narrow_1.before args s = true) : (Jvm.Cond.isRef (Term.static "java/lang/Throwable" "SUPPRESSED_SENTINEL" "Ljava/util/List;")).before args s = true := (am_go_before [false, false, false, false, false, false, true, true, false] _ h)
theorem am_nca {args : Array Value} {s : State} (h : narrow_1.before args s = true) : ∀ x y, x < 3 → y < 3 → x ≠ y → va_Nc (am_xn x) (am_xn y) s
  | 0, 0, _, _, q => absurd rfl q
  | 0, 1, _, _, _ => va_Nc.of (args := args) (C := "java/lang/IllegalStateException") (T := "java/lang/IllegalArgumentException") (am_go_before [false, true, false, true, true, false, true, true, false] _ h)
  | 0, 2, _, _, _ => va_Nc.of (args := args) (C := "java/lang/IllegalStateException") (T := "java/lang/UnsupportedOperationException") (am_go_before [false, true, false, true, false, true, false, true, true, false] _ h)
  | 1, 0, _, _, _ => va_Nc.of (args := args) (C := "java/lang/IllegalArgumentException") (T := "java/lang/IllegalStateException") (am_go_before [false, true, false, false, true, true, true, true, true, true] _ h)
  | 1, 1, _, _, q => absurd rfl q
  | 1, 2, _, _, _ => va_Nc.of (args := args) (C := "java/lang/IllegalArgumentException") (T := "java/lang/UnsupportedOperationException") (am_go_before [false, true, false, true, false, true, false, true, false] _ h)
  | 2, 0, _, _, _ => va_Nc.of (args := args) (C := "java/lang/UnsupportedOperationException") (T := "java/lang/IllegalStateException") (am_go_before [false, true, false, false, true, true, true, true, true, false] _ h)
  | 2, 1, _, _, _ => va_Nc.of (args := args) (C := "java/lang/UnsupportedOperationException") (T := "java/lang/IllegalArgumentException") (am_go_before [false, true, false, true, true, false, true, false, true, true] _ h)
  | 2, 2, _, _, q => absurd rfl q
  | _ + 3, _, q, _, _ => absurd q (by omega)
  | _, _ + 3, _, q, _ => absurd q (by omega)
theorem am_vkR {args : Array Value} {s : State} {own tx : String} {k : Nat} (h1 : (Jvm.Cond.stringRef own k tx).before args s = true) (h2 : (Jvm.Cond.exactly (Term.string own k) "java/lang/String").before args s = true) : ∃ a, vk_R own k tx a s := by
  obtain ⟨a, c, cA, kA, q1, -⟩ := Cond.exactly_spec (args := args) (first := s) (o := none) (s := s) (idx := []) (t := Term.string own k) (cls := "java/lang/String") h2
  exact ⟨a, vk_R.of h1 q1⟩
theorem am_mga {args : Array Value} {s : State} (h : narrow_1.before args s = true) (hts : ∀ w ∈ lw_tbl, w.before args s = true) : ∀ e ∈ am_msgs, ∃ a, vk_R e.1 e.2.1 e.2.2 a s := List.forall_mem_cons.mpr ⟨am_vkR (own := "DelegationShop") (k := 61) (tx := "the tape is full") (hts _ (am_tb5 (i := 155) rfl)) (am_go_before [true, false, false, true, true, true, true, false, true, true] _ h), List.forall_mem_cons.mpr ⟨am_vkR (own := "DelegationShop") (k := 72) (tx := "the tape has not so many bytes") (hts _ (am_tb5 (i := 220) rfl)) (am_go_before [true, false, true, false, false, true, true, false, true, true] _ h), List.forall_mem_cons.mpr ⟨am_vkR (own := "DelegationShop") (k := 96) (tx := "no such manner") (hts _ (am_tb8 (i := 93) rfl)) (am_go_before [true, true, true, true, false, false, false, false, true] _ h), List.forall_mem_cons.mpr ⟨am_vkR (own := "DelegationShop") (k := 113) (tx := "no such method of two parameters") (hts _ (am_tb6 (i := 2) rfl)) (am_go_before [true, false, true, true, true, true, false, true, true, false] _ h), List.forall_mem_cons.mpr ⟨am_vkR (own := "DelegationShop") (k := 196) (tx := "no such answer") (hts _ (am_tb8 (i := 83) rfl)) (am_go_before [true, true, true, false, false, true, true, false, true, false] _ h), List.forall_mem_cons.mpr ⟨am_vkR (own := "DelegationShop") (k := 270) (tx := "no text was loaded") (hts _ (am_tb6 (i := 0) rfl)) (am_go_before [true, false, true, true, false, true, false, false, false] _ h), List.forall_mem_cons.mpr ⟨am_vkR (own := "DelegationShop$Compiler") (k := 49) (tx := "no text goes on with this token") (hts _ (am_tb4 (i := 124) rfl)) (am_go_before [true, false, false, true, false, false, true, false, false] _ h), fun _ h => by cases h⟩⟩⟩⟩⟩⟩⟩
theorem am_lsC : Jvm.Cond.laysStatic "java/lang/String" "COMPACT_STRINGS" "Z" ∈ lw_tbl := List.mem_append_right _ (have h : Jvm.Cond.laysStatic "java/lang/String" "COMPACT_STRINGS" "Z" ∈ tables_1_1 := List.mem_of_getElem? (i := 62) rfl; List.mem_append_left _ h)
theorem am_lsF : Jvm.Cond.laysStatic "jdk/internal/util/Preconditions" "SIOOBE_FORMATTER" "Ljava/util/function/BiFunction;" ∈ lw_tbl := List.mem_append_right _ (have h : Jvm.Cond.laysStatic "jdk/internal/util/Preconditions" "SIOOBE_FORMATTER" "Ljava/util/function/BiFunction;" ∈ tables_1_1 := List.mem_of_getElem? (i := 78) rfl; List.mem_append_left _ h)
theorem am_lsU : Jvm.Cond.laysStatic "java/lang/Throwable" "UNASSIGNED_STACK" "[Ljava/lang/StackTraceElement;" ∈ lw_tbl := List.mem_append_right _ (have h : Jvm.Cond.laysStatic "java/lang/Throwable" "UNASSIGNED_STACK" "[Ljava/lang/StackTraceElement;" ∈ tables_1_4 := List.mem_of_getElem? (i := 110) rfl; List.mem_append_right _ (List.mem_append_right _ (List.mem_append_right _ (List.mem_append_left _ h))))
theorem am_lsS : Jvm.Cond.laysStatic "java/lang/Throwable" "SUPPRESSED_SENTINEL" "Ljava/util/List;" ∈ lw_tbl := List.mem_append_right _ (have h : Jvm.Cond.laysStatic "java/lang/Throwable" "SUPPRESSED_SENTINEL" "Ljava/util/List;" ∈ tables_1_4 := List.mem_of_getElem? (i := 112) rfl; List.mem_append_right _ (List.mem_append_right _ (List.mem_append_right _ (List.mem_append_left _ h))))
theorem am_inC_ : Jvm.Cond.initialized "java/lang/String" ∈ lw_tblG := (am_tw1 (i := 4) rfl rfl)
theorem am_inF_ : Jvm.Cond.initialized "jdk/internal/util/Preconditions" ∈ lw_tblG := (am_tw1 (i := 6) rfl rfl)
theorem am_inU_ : Jvm.Cond.initialized "java/lang/Throwable" ∈ lw_tblG := (am_tw1 (i := 17) rfl rfl)
theorem am_inst : ∀ c, c < 12 → Jvm.Cond.instantiable (am_C c) (am_nf c) ∈ lw_tblG
  | 0, _ => (am_tw1 (i := 154) rfl rfl)
  | 1, _ => (am_tw1 (i := 41) rfl rfl)
  | 2, _ => (am_tw3 (i := 10) rfl rfl)
  | 3, _ => (am_tw3 (i := 52) rfl rfl)
  | 4, _ => (am_tw2 (i := 226) rfl rfl)
  | 5, _ => (am_tw2 (i := 60) rfl rfl)
  | 6, _ => (am_tw2 (i := 126) rfl rfl)
  | 7, _ => (am_tw1 (i := 47) rfl rfl)
  | 8, _ => (am_tw1 (i := 148) rfl rfl)
  | 9, _ => (am_tw2 (i := 163) rfl rfl)
  | 10, _ => (am_tw2 (i := 66) rfl rfl)
  | 11, _ => (am_tw1 (i := 33) rfl rfl)
  | _ + 12, h => absurd h (by omega)
theorem am_sr29 : Jvm.Cond.stringRef "DelegationShop$Tape" 29 "method var if else while return answer write fail guard on ensure set add give drop link unlink clone new nil self lobby above " ∈ lw_tbl := (am_tb1 (i := 52) rfl)
theorem am_sr84 : Jvm.Cond.stringRef "DelegationShop$Tape" 84 "{}()[]|,;.!=<>+-*/%" ∈ lw_tbl := (am_tb4 (i := 9) rfl)
