/-! the heap: how the abstract cells lie in the machine's -/
def am_aty (k : Nat) : FieldType := if k = 101 then .long else if k = 102 then .int else if k = 103 then .byte else .boolean
def am_ce (ρ : am_A) (h : am_H) (r k len : Nat) : va_E :=
  if k < 100 then .inr (k, (List.range (am_nf k)).map (fun i => am_rep ρ (am_fv (am_fty k i) r i h)))
  else .inl (ρ.2.2 r, len, if k = 101 then .inr (.inl (fun j => Int64.ofInt (h.2.2.1 r j))) else .inl (fun j => Int32.ofInt (h.2.1 r j)))
def am_wl (ρ : am_A) (h : am_H) : va_W := (List.range h.1.length).map (fun i => (ρ.1 (i + 1), am_ce ρ h (i + 1) (h.1.getD i (0, 0)).1 (h.1.getD i (0, 0)).2))
theorem am_wl_len (ρ : am_A) (h : am_H) : (am_wl ρ h).length = h.1.length := by unfold am_wl; simp
theorem am_wl_at {ρ : am_A} {h : am_H} {i k len : Nat} (hk : h.1[i]? = some (k, len)) : (am_wl ρ h)[i]? = some (ρ.1 (i + 1), am_ce ρ h (i + 1) k len) := by
  have hl := (List.getElem?_eq_some_iff.mp hk).1
  unfold am_wl
  rw [List.getElem?_map, List.getElem?_range hl]
  simp [List.getD, hk]
/-- the state's bounds -/
def am_okh (h : am_H) : Prop := (∀ p k, -2147483648 ≤ h.2.1 p k ∧ h.2.1 p k < 2147483648) ∧ (∀ p k, -9223372036854775808 ≤ h.2.2.1 p k ∧ h.2.2.1 p k < 9223372036854775808) ∧ (∀ p k, h.2.2.2.1 p k ≤ h.1.length ∨ am_SP ≤ h.2.2.2.1 p k) ∧ (∀ (i k len : Nat), h.1[i]? = some (k, len) → (k < 12 ∨ (101 ≤ k ∧ k ≤ 104)) ∧ len < 2147483648) ∧ h.1.length < am_SP
/-- a change of one cell -/
theorem am_wl_set {ρ : am_A} {h h' : am_H} {i k len : Nat} (hk : h.1[i]? = some (k, len)) (h1 : h'.1 = h.1) (hI : ∀ q, q ≠ i + 1 → h'.2.1 q = h.2.1 q) (hJ : ∀ q, q ≠ i + 1 → h'.2.2.1 q = h.2.2.1 q) (hR : ∀ q, q ≠ i + 1 → h'.2.2.2.1 q = h.2.2.2.1 q) :
    am_wl ρ h' = (am_wl ρ h).set i (ρ.1 (i + 1), am_ce ρ h' (i + 1) k len) := by
  apply List.ext_getElem?
  intro j
  by_cases hj : j = i
  · subst hj
    rw [List.getElem?_set_self (by rw [am_wl_len]; exact (List.getElem?_eq_some_iff.mp hk).1), am_wl_at (by rw [h1]; exact hk)]
  · rw [List.getElem?_set_ne (fun c => hj c.symm)]
    cases hx : h.1[j]? with
    | none =>
      have e1 : h.1.length ≤ j := List.getElem?_eq_none_iff.mp hx
      rw [List.getElem?_eq_none_iff.mpr (by rw [am_wl_len, h1]; exact e1), List.getElem?_eq_none_iff.mpr (by rw [am_wl_len]; exact e1)]
    | some x =>
      obtain ⟨k2, l2⟩ := x
      rw [am_wl_at hx, am_wl_at (by rw [h1]; exact hx)]
      congr 2
      have e : j + 1 ≠ i + 1 := by omega
      unfold am_ce am_fv
      rw [hI _ e, hJ _ e, hR _ e]
/-- the array classes -/
def am_ak (ρ : am_A) (h : am_H) (s : State) : Prop := ∀ i k len, h.1[i]? = some (k, len) → 101 ≤ k → ArrOfT s (ρ.2.2 (i + 1)) (am_aty k) ∧ va_RA s (ρ.2.2 (i + 1)) (am_aty k)
def am_strf (b : Nat) : String × String := if b = 0 then ("value", "[B") else ("coder", "B")
/-- what is there ahead of the run -/
def am_rof (ro : Nat → Option (Nat × Nat)) (A : Nat → Prop) (ρ : am_A) (h : am_H) (s : State) (H : Heap) : Prop := ∀ q k len, ro q = some (k, len) →
  len < 2147483648 ∧ ((k = 50 ∧ ∃ a, ρ.2.1 q = some a ∧ va_O "java/lang/String" a A s H ∧ ∀ b, b < 2 → va_OF "java/lang/String" (am_strf b).1 (am_strf b).2 (am_rep ρ (am_fv (am_fty 50 b) (am_SP + q) b h)) a A s H) ∨
  ((k = 102 ∨ k = 103) ∧ ∃ t, ρ.2.1 q = some t ∧ va_T (am_aty k) t len (fun j => .int (Int32.ofInt (h.2.1 (am_SP + q) j))) A s H))
/-- a renumbering that keeps what is there -/
def am_ext (n : Nat) (ρ ρ' : am_A) : Prop := (∀ r, r ≤ n → ρ'.1 r = ρ.1 r) ∧ ρ'.2.1 = ρ.2.1 ∧ ∀ r, r ≤ n → ρ'.2.2 r = ρ.2.2 r
theorem am_ext_rf (n : Nat) (ρ : am_A) : am_ext n ρ ρ := ⟨fun _ _ => rfl, rfl, fun _ _ => rfl⟩
theorem am_ext_tr {n n' : Nat} {ρ ρ' ρ'' : am_A} (h1 : am_ext n ρ ρ') (h2 : am_ext n' ρ' ρ'') (h : n ≤ n') : am_ext n ρ ρ'' :=
  ⟨fun r hr => (h2.1 r (Nat.le_trans hr h)).trans (h1.1 r hr), h2.2.1.trans h1.2.1, fun r hr => (h2.2.2 r (Nat.le_trans hr h)).trans (h1.2.2 r hr)⟩
theorem am_ext_rep {n : Nat} {ρ ρ' : am_A} (h : am_ext n ρ ρ') (hn : n < am_SP) {v : am_V} (hv : am_ok n v) : am_rep ρ' v = am_rep ρ v := by
  rcases v with z | z | p
  · rfl
  · rfl
  · show (if p = 0 then Value.null else if p < am_SP then .ref (ρ'.1 p) else va_rf (ρ'.2.1 (p - am_SP))) = (if p = 0 then Value.null else if p < am_SP then .ref (ρ.1 p) else va_rf (ρ.2.1 (p - am_SP)))
    rw [h.2.1]
    split
    · rfl
    · split
      · rename_i h1 h2
        rcases hv with q | q
        · rw [h.1 p q]
        · omega
      · rfl
theorem am_ext_reps {n : Nat} {ρ ρ' : am_A} (h : am_ext n ρ ρ') (hn : n < am_SP) {st : List am_V} (hv : am_oks n st) : st.map (am_rep ρ') = st.map (am_rep ρ) :=
  List.map_congr_left fun v hm => am_ext_rep h hn (hv v hm)
theorem am_ext_lr {n : Nat} {ρ ρ' : am_A} (h : am_ext n ρ ρ') (hn : n < am_SP) {ls : am_L} (hv : ∀ i v, am_get ls i = some v → am_ok n v) {jls : Array Slot} {m : Nat} (hl : lv_has jls m (am_lr ρ ls)) : lv_has jls m (am_lr ρ' ls) :=
  am_lr_less hl fun i v hg => ⟨v, hg, (am_ext_rep h hn (hv i v hg)).symm⟩
/-- the whole: the cells, apart, nothing else written -/
def am_CR (ro : Nat → Option (Nat × Nat)) (D : va_G) (A : Nat → Prop) (s : State) (ρ : am_A) (h : am_H) (H : Heap) (locs : List Loc) : Prop :=
  va_P D am_cl (am_wl ρ h) H ∧ va_D A (am_wl ρ h) ∧ va_S A s.heap H locs ∧ am_ak ρ h s ∧ am_okh h ∧ am_rof ro A ρ h s s.heap
theorem am_rof_same {ro : Nat → Option (Nat × Nat)} {A : Nat → Prop} {ρ : am_A} {h h' : am_H} {s : State} {H : Heap} (hr : am_rof ro A ρ h s H) (hI : ∀ q, am_SP ≤ q → h'.2.1 q = h.2.1 q) (hR : ∀ q, am_SP ≤ q → h'.2.2.2.1 q = h.2.2.2.1 q) : am_rof ro A ρ h' s H := by
  intro q k len hq
  obtain ⟨h0, h1⟩ := hr q k len hq
  refine ⟨h0, ?_⟩
  rcases h1 with ⟨e, a, h2, hO, h3⟩ | ⟨e, t, h2, h3⟩
  · refine Or.inl ⟨e, a, h2, hO, fun b hb => ?_⟩
    have h4 := h3 b hb
    have e2 : am_fv (am_fty 50 b) (am_SP + q) b h' = am_fv (am_fty 50 b) (am_SP + q) b h := by
      unfold am_fv
      rw [hI _ (Nat.le_add_right _ _), hR _ (Nat.le_add_right _ _)]
      unfold am_fty
      rw [if_pos rfl]
      split <;> (try rfl) <;> (rename_i hx; split at hx <;> cases hx)
    rw [e2]
    exact h4
  · refine Or.inr ⟨e, t, h2, ?_⟩
    rw [hI _ (Nat.le_add_right _ _)]
    exact h3
theorem am_kind_lt {ro : Nat → Option (Nat × Nat)} {h : am_H} {p c len : Nat} (hk : am_kind ro h p = some (c, len)) : p ≠ 0 ∧ ((p < am_SP ∧ ∃ i, p = i + 1 ∧ h.1[i]? = some (c, len)) ∨ (am_SP ≤ p ∧ ∃ q, p = am_SP + q ∧ ro q = some (c, len))) := by
  unfold am_kind at hk
  split at hk
  · cases hk
  · rename_i h0
    refine ⟨h0, ?_⟩
    split at hk
    · exact Or.inl ⟨by assumption, p - 1, by omega, hk⟩
    · exact Or.inr ⟨by omega, p - am_SP, by omega, hk⟩
theorem am_rep_lt {ρ : am_A} {i : Nat} (h : i + 1 < am_SP) : am_rep ρ (.inr (.inr (i + 1))) = .ref (ρ.1 (i + 1)) := by
  show (if i + 1 = 0 then Value.null else if i + 1 < am_SP then .ref (ρ.1 (i + 1)) else va_rf (ρ.2.1 (i + 1 - am_SP))) = _
  rw [if_neg (by omega), if_pos h]
theorem am_rep_sp {ρ : am_A} {q a : Nat} (h : ρ.2.1 q = some a) : am_rep ρ (.inr (.inr (am_SP + q))) = .ref a := by
  show (if am_SP + q = 0 then Value.null else if am_SP + q < am_SP then .ref (ρ.1 (am_SP + q)) else va_rf (ρ.2.1 (am_SP + q - am_SP))) = _
  rw [if_neg (by unfold am_SP; omega), if_neg (by omega), Nat.add_sub_cancel_left, h]
  rfl
theorem am_vpin {j : Int} {n : Nat} (h0 : 0 ≤ j) (h1 : j < (n : Int)) (hn : n < 2147483648) : vp_in (Int32.ofInt j) n ∧ (Int32.ofInt j).toNatClampNeg = j.toNat := by
  have hc := am_clamp h0 (by omega)
  refine ⟨vp_in_iff.mpr ?_, hc⟩
  rw [am_to32 (by omega) (by omega)]
  exact ⟨h0, h1⟩
/-- the String constants that the code reads: class, place, text, number of the cell -/
def am_strs : List (String × Nat × String × Nat) := [("DelegationShop$Tape", 29, "method var if else while return answer write fail guard on ensure set add give drop link unlink clone new nil self lobby above ", 10), ("DelegationShop$Tape", 84, "{}()[]|,;.!=<>+-*/%", 11)]
/-- the exceptions that the code throws -/
def am_xn (x : Nat) : String := match x with
  | 0 => "java/lang/IllegalStateException"
  | 1 => "java/lang/IllegalArgumentException"
  | _ => "java/lang/UnsupportedOperationException"
/-- their texts: class, place, text -/
def am_msgs : List (String × Nat × String) := [("DelegationShop", 61, "the tape is full"), ("DelegationShop", 72, "the tape has not so many bytes"), ("DelegationShop", 96, "no such manner"), ("DelegationShop", 113, "no such method of two parameters"), ("DelegationShop", 196, "no such answer"), ("DelegationShop", 270, "no text was loaded"), ("DelegationShop$Compiler", 49, "no text goes on with this token")]
/-- the statics that are there ahead of the run -/
def am_gs (A : Nat → Prop) (ρ : am_A) (s : State) (H : Heap) : Prop :=
  (∀ e ∈ am_strs, ∃ a, ρ.2.1 e.2.2.2 = some a ∧ vk_R e.1 e.2.1 e.2.2.1 a s) ∧
  va_Z "java/lang/String" "COMPACT_STRINGS" "Z" (.int 1) A s H ∧
  True ∧
  va_Z "jdk/internal/util/Preconditions" "SIOOBE_FORMATTER" "Ljava/util/function/BiFunction;" (va_rf (ρ.2.1 30)) A s H ∧
  vx_Zq Bundle.tN "UNASSIGNED_STACK" Bundle.steD A s H ∧ vx_Zq Bundle.tN "SUPPRESSED_SENTINEL" Bundle.listD A s H ∧
  (∀ e ∈ am_msgs, ∃ a, vk_R e.1 e.2.1 e.2.2 a s) ∧
  ∀ x y, x < 3 → y < 3 → x ≠ y → va_Nc (am_xn x) (am_xn y) s
/-- what the code's rows must say of an instruction on the heap -/
def am_hok (own : String) (ini : Bool) (ins : Instr) (a b : Nat) (z : Int) : Prop := match ins with
  | .getfield idx => (a < 12 ∧ b < am_nf a ∧ ((z = 0 ∧ Jvm.Cond.fieldLink own idx (am_T a b).1 (am_T a b).2.1 (am_T a b).2.2.1 ∈ lw_tblG) ∨ (z = 1 ∧ ∃ host, Jvm.Cond.fieldLinkNest own idx (am_T a b).1 (am_T a b).2.1 (am_T a b).2.2.1 host ∈ lw_tblG))) ∨ (a = 50 ∧ b < 2 ∧ Jvm.Cond.fieldLink own idx "java/lang/String" (am_strf b).1 (am_strf b).2 ∈ lw_tblG)
  | .putfield idx => a < 12 ∧ b < am_nf a ∧ ((z = 0 ∧ Jvm.Cond.fieldLink own idx (am_T a b).1 (am_T a b).2.1 (am_T a b).2.2.1 ∈ lw_tblG ∧ ((am_T a b).2.2.2 = true → ini = true ∧ (am_T a b).1 = own)) ∨ (z = 1 ∧ (am_T a b).2.2.2 = false ∧ ∃ host, Jvm.Cond.fieldLinkNest own idx (am_T a b).1 (am_T a b).2.1 (am_T a b).2.2.1 host ∈ lw_tblG))
  | .new idx => a < 12 ∧ Jvm.Cond.classLink own idx (am_C a) ∈ lw_tblG ∧ Jvm.Cond.instantiable (am_C a) (am_nf a) ∈ lw_tblG ∧ Jvm.Cond.initialized (am_C a) ∈ lw_tblG
  | .newarray t => Jvm.Cond.arrayClass (Op.newarray.typeOf t) ∈ lw_tblG
  | .ldc idx => (b = 0 ∧ Jvm.Cond.constant own idx (Int32.ofInt z) ∈ lw_tblG) ∨ (b ≠ 0 ∧ ∃ tx, (own, idx, tx, a) ∈ am_strs)
  | .ldc_w idx => Jvm.Cond.constant own idx (Int32.ofInt z) ∈ lw_tblG
  | .ldc2_w idx => Jvm.Cond.constantLong own idx (Int64.ofInt z) ∈ lw_tblG
  | .getstatic idx => (b = 0 ∧ Jvm.Cond.fieldLink own idx "java/lang/String" "COMPACT_STRINGS" "Z" ∈ lw_tblG) ∨ (b ≠ 0 ∧ a = 30 ∧ Jvm.Cond.fieldLink own idx "jdk/internal/util/Preconditions" "SIOOBE_FORMATTER" "Ljava/util/function/BiFunction;" ∈ lw_tblG)
  | _ => True
