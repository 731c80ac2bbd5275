/-! THE START: the law's body as a run of the abstract machine -/
def am_I0 (X : Nat → Int) : Nat → Nat → Int := fun p k => if p = am_SP + 2 then X k else if p = am_SP + 20 then am_s29.getD k 0 else if p = am_SP + 21 then am_s84.getD k 0 else 0
def am_R0 : Nat → Nat → Nat := fun p k => if k = 0 then (if p = am_SP + 10 then am_SP + 20 else if p = am_SP + 11 then am_SP + 21 else 0) else 0
/-- at the start: no cell, the script, what is there ahead of the run -/
def am_h0 (X : Nat → Int) : am_H := ([], am_I0 X, fun _ _ => 0, am_R0, 0, 0)
def am_ro (L : Nat) : Nat → Option (Nat × Nat) := fun q => if q = 2 then some (102, L) else if q = 10 then some (50, 0) else if q = 11 then some (50, 0) else if q = 20 then some (103, 127) else if q = 21 then some (103, 19) else none
theorem am_getD_in {l : List Int} (h : l.all (fun z => decide (-2147483648 ≤ z) && decide (z < 2147483648)) = true) (k : Nat) : -2147483648 ≤ l.getD k 0 ∧ l.getD k 0 < 2147483648 := by
  refine am_getD_all (Q := fun z : Int => -2147483648 ≤ z ∧ z < 2147483648) ⟨by omega, by omega⟩ l k (fun z hz => ?_)
  have := List.all_eq_true.mp h z hz
  simp only [Bool.and_eq_true, decide_eq_true_eq] at this
  exact this
theorem am_I0_in {X : Nat → Int} (hX : ∀ k, -2147483648 ≤ X k ∧ X k < 2147483648) (p k : Nat) : -2147483648 ≤ am_I0 X p k ∧ am_I0 X p k < 2147483648 := by
  unfold am_I0
  split
  · exact hX k
  · split
    · exact am_getD_in (by decide +kernel) k
    · split
      · exact am_getD_in (by decide +kernel) k
      · exact ⟨by omega, by omega⟩
theorem am_h0_ok {X : Nat → Int} (hX : ∀ k, -2147483648 ≤ X k ∧ X k < 2147483648) : am_okh (am_h0 X) := by
  refine ⟨am_I0_in hX, fun p k => ⟨by show (-9223372036854775808 : Int) ≤ 0; omega, by show (0 : Int) < 9223372036854775808; omega⟩, fun p k => ?_, fun i k len h => (by cases h), (by show 0 < am_SP; unfold am_SP; omega)⟩
  show am_R0 p k ≤ 0 ∨ am_SP ≤ am_R0 p k
  unfold am_R0
  split
  · split
    · exact Or.inr (Nat.le_add_right _ _)
    · split
      · exact Or.inr (Nat.le_add_right _ _)
      · exact Or.inl (Nat.le_refl _)
  · exact Or.inl (Nat.le_refl _)
theorem am_R10 : am_R0 (am_SP + 10) 0 = am_SP + 20 := by unfold am_R0; rw [if_pos rfl, if_pos rfl]
theorem am_R11 : am_R0 (am_SP + 11) 0 = am_SP + 21 := by
  unfold am_R0
  rw [if_pos rfl, if_neg (by omega), if_pos rfl]
theorem am_I10 {X : Nat → Int} : am_I0 X (am_SP + 10) 1 = 0 := by
  unfold am_I0
  rw [if_neg (by omega), if_neg (by omega), if_neg (by omega)]
theorem am_I11 {X : Nat → Int} : am_I0 X (am_SP + 11) 1 = 0 := by
  unfold am_I0
  rw [if_neg (by omega), if_neg (by omega), if_neg (by omega)]
theorem am_I20 {X : Nat → Int} : am_I0 X (am_SP + 20) = fun k => am_s29.getD k 0 := by
  funext k
  unfold am_I0
  rw [if_neg (by omega), if_pos rfl]
theorem am_I21 {X : Nat → Int} : am_I0 X (am_SP + 21) = fun k => am_s84.getD k 0 := by
  funext k
  unfold am_I0
  rw [if_neg (by omega), if_neg (by omega), if_pos rfl]
theorem am_I2 {X : Nat → Int} : am_I0 X (am_SP + 2) = X := by
  funext k
  unfold am_I0
  rw [if_pos rfl]
theorem am_Kof {s : State} {args : Array Value} (hts : ∀ w ∈ lw_tblG, w.before args s = true) : ∃ D : va_G, va_K D am_cl [] s := by
  have h0 : ∀ c : Nat, ∃ q : ClassId × (Nat → Nat), c < 12 → u_Kn s (am_C c) (am_T c) (am_nf c) q.1 q.2 := by
    intro c
    by_cases hc : c < 12
    · obtain ⟨cC, iS, h⟩ := u_known hts (am_cl_in c hc) (hts _ (am_inst c hc))
      exact ⟨(cC, iS), fun _ => h⟩
    · exact ⟨(0, fun _ => 0), fun h => absurd h hc⟩
  obtain ⟨f, hf⟩ := Classical.axiomOfChoice h0
  refine ⟨(fun c => (f c).1, fun c => (f c).2), fun c q hq => ?_, fun k q h => by cases h⟩
  have hc : c < 12 := (List.getElem?_eq_some_iff.mp hq).1
  rw [am_cl_at c hc] at hq
  cases hq
  exact hf c hc
/-- a String constant -/
theorem am_strof {args : Array Value} {s : State} {own : String} {k N : Nat} {y : List Int32} {A : Nat → Prop} (hN : N < 2 ^ 31) (hex : (Jvm.Cond.exactly (Term.string own k) "java/lang/String").before args s = true) (hco : (Jvm.Cond.eq (Term.field (Term.string own k) "java/lang/String" "coder" "B") (.int 0)).before args s = true)
    (har : (Jvm.Cond.arrayOf (Term.field (Term.string own k) "java/lang/String" "value" "[B") .byte).before args s = true) (hle : (Jvm.Cond.eq (Term.length (Term.field (Term.string own k) "java/lang/String" "value" "[B")) (.int (Int32.ofNat N))).before args s = true)
    (hel : ∀ j, j < N → (Jvm.Cond.eq (Term.elem (Term.field (Term.string own k) "java/lang/String" "value" "[B") (.int (Int32.ofNat j))) (.int (y.getD j 0))).before args s = true) (hA : ∀ a : Nat, a < s.heap.size → ¬ A a) :
    ∃ a t : Nat, (Term.string own k).eval args s none [] s = some (.ref a) ∧ va_O "java/lang/String" a A s s.heap ∧ va_OF "java/lang/String" "coder" "B" (.int 0) a A s s.heap ∧ va_OF "java/lang/String" "value" "[B" (.ref t) a A s s.heap ∧ va_T .byte t N (fun j => .int (y.getD j 0)) A s s.heap := by
  obtain ⟨a, c, cA, kA, q1, q2, q3, q4, q5, q6, -⟩ := Cond.exactly_spec (args := args) (first := s) (o := none) (s := s) (idx := []) (t := Term.string own k) (cls := "java/lang/String") hex
  obtain ⟨t, ht, hT⟩ := va_Tof (f := fun j => .int (y.getD j 0)) (A := A) hN har (va_eqt hle) (fun j hj => va_eqt (hel j hj)) hA
  exact ⟨a, t, q1, ⟨cA, q3, q5, by rw [q6]; exact q2, hA a (Array.getElem?_eq_some_iff.mp q3).1⟩, vk_OFof q1 (va_eqt hco) hA, vk_OFof q1 ht hA, hT⟩
theorem am_isRef_eval {args : Array Value} {s : State} {C n d : String} {A : Nat → Prop} (hl : (Cond.laysStatic C n d).before args s = true) (hini : (Cond.initialized C).before args s = true) (h : (Cond.isRef (.static C n d)).before args s = true) (hA : ∀ a : Nat, a < s.heap.size → ¬ A a) : ∃ o : Option Nat, va_Z C n d (va_rf o) A s s.heap := by
  cases hv : (Term.static C n d).eval args s none [] s with
  | none => simp [Cond.before, Cond.holds, Cond.value, hv] at h
  | some v =>
    have hz := va_Zof hl hini hv hA
    cases v with
    | ref a => exact ⟨some a, hz⟩
    | null => exact ⟨none, hz⟩
    | _ => simp [Cond.before, Cond.holds, Cond.value, hv, Value.isRef] at h
theorem am_start0 {s : State} {b L : Nat} {xs : Nat → Int32} (hL : L ≤ 260) (hts : ∀ w ∈ lw_tbl, w.before #[Value.ref b] s = true) (hn : narrow_1.before #[Value.ref b] s = true) (hX : va_X b L xs s s.heap) (hb : b < s.heap.size) :
    ∃ ρ : am_A, ρ.2.1 2 = some b ∧ am_gs (fun q => s.heap.size ≤ q) ρ s s.heap ∧ am_rof (am_ro L) (fun q => s.heap.size ≤ q) ρ (am_h0 (fun k => (xs k).toInt)) s s.heap := by
  have hA : ∀ a : Nat, a < s.heap.size → ¬ s.heap.size ≤ a := fun a h => Nat.not_le.mpr h
  obtain ⟨a1, t1, e1, o1, c1, v1, y1⟩ := am_strof (A := fun q => s.heap.size ≤ q) (by decide) (am_ex29 hn) (am_cd29 hn) (am_ar29 hn) (am_ln29 hn) (am_el29 hn) hA
  obtain ⟨a2, t2, e2, o2, c2, v2, y2⟩ := am_strof (A := fun q => s.heap.size ≤ q) (by decide) (am_ex84 hn) (am_cd84 hn) (am_ar84 hn) (am_ln84 hn) (am_el84 hn) hA
  obtain ⟨o, z4⟩ := am_isRef_eval (A := fun q => s.heap.size ≤ q) (hts _ am_lsF) (hts _ (am_tblm am_inF_)) (am_irF hn) hA
  refine ⟨(fun _ => 0, fun q => if q = 2 then some b else if q = 10 then some a1 else if q = 11 then some a2 else if q = 20 then some t1 else if q = 21 then some t2 else if q = 30 then o else none, fun _ => 0), rfl, ⟨?_, ?_, trivial, z4, ?_, ?_, am_mga hn hts, am_nca hn⟩, ?_⟩
  · exact List.forall_mem_cons.mpr ⟨⟨a1, rfl, vk_R.of (hts _ am_sr29) e1⟩, List.forall_mem_cons.mpr ⟨⟨a2, rfl, vk_R.of (hts _ am_sr84) e2⟩, fun _ h => by cases h⟩⟩
  · exact va_Zof (hts _ am_lsC) (hts _ (am_tblm am_inC_)) (va_eqi (am_cmp0 hn)) hA
  · exact vx_Zqof (hts _ am_lsU) (hts _ (am_tblm am_inU_)) (am_irU hn) hA
  · exact vx_Zqof (hts _ am_lsS) (hts _ (am_tblm am_inU_)) (am_irS hn) hA
  · intro q k len hq
    unfold am_ro at hq
    split at hq
    · subst q; cases hq
      refine ⟨by omega, Or.inr ⟨Or.inl rfl, b, rfl, ?_⟩⟩
      have e : (fun j => Value.int (Int32.ofInt ((am_h0 (fun k => (xs k).toInt)).2.1 (am_SP + 2) j))) = fun j => Value.int (xs j) := by
        funext j
        show Value.int (Int32.ofInt (am_I0 (fun k => (xs k).toInt) (am_SP + 2) j)) = _
        rw [am_I2, Int32.ofInt_toInt]
      rw [e]
      obtain ⟨cell, g1, g2, g3, g4, g5⟩ := hX
      refine ⟨cell, g1, g2, g3, Nat.le_of_eq g4.symm, ?_, g5, hA b hb⟩
      rw [g4]
      first | done | rfl
    · split at hq
      · subst q; cases hq
        refine ⟨by decide, Or.inl ⟨rfl, a1, rfl, o1, fun b hb => ?_⟩⟩
        match b, hb with
        | 0, _ =>
            show va_OF "java/lang/String" "value" "[B" (am_rep _ (.inr (.inr (am_R0 (am_SP + 10) 0)))) _ _ s s.heap
            rw [am_R10, am_rep_sp (q := 20) (a := t1) rfl]
            exact v1
        | 1, _ =>
            show va_OF "java/lang/String" "coder" "B" (.int (Int32.ofInt (am_I0 (fun k => (xs k).toInt) (am_SP + 10) 1))) _ _ s s.heap
            rw [am_I10]
            exact c1
      · split at hq
        · subst q; cases hq
          refine ⟨by decide, Or.inl ⟨rfl, a2, rfl, o2, fun b hb => ?_⟩⟩
          match b, hb with
          | 0, _ =>
            show va_OF "java/lang/String" "value" "[B" (am_rep _ (.inr (.inr (am_R0 (am_SP + 11) 0)))) _ _ s s.heap
            rw [am_R11, am_rep_sp (q := 21) (a := t2) rfl]
            exact v2
          | 1, _ =>
            show va_OF "java/lang/String" "coder" "B" (.int (Int32.ofInt (am_I0 (fun k => (xs k).toInt) (am_SP + 11) 1))) _ _ s s.heap
            rw [am_I11]
            exact c2
        · split at hq
          · subst q; cases hq
            refine ⟨by decide, Or.inr ⟨Or.inr rfl, t1, rfl, ?_⟩⟩
            have e : (fun j => Value.int (Int32.ofInt ((am_h0 (fun k => (xs k).toInt)).2.1 (am_SP + 20) j))) = fun j => Value.int (am_y29.getD j 0) := by
              funext j; rw [← am_ys29 j]; show Value.int (Int32.ofInt (am_I0 (fun k => (xs k).toInt) (am_SP + 20) j)) = _; rw [am_I20]
            rw [e]; exact y1
          · split at hq
            · subst q; cases hq
              refine ⟨by decide, Or.inr ⟨Or.inr rfl, t2, rfl, ?_⟩⟩
              have e : (fun j => Value.int (Int32.ofInt ((am_h0 (fun k => (xs k).toInt)).2.1 (am_SP + 21) j))) = fun j => Value.int (am_y84.getD j 0) := by
                funext j; rw [← am_ys84 j]; show Value.int (Int32.ofInt (am_I0 (fun k => (xs k).toInt) (am_SP + 21) j)) = _; rw [am_I21]
              rw [e]; exact y2
            · cases hq
