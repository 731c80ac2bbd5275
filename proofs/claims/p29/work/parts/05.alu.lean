/-- where cells lie: addresses by number; what is there ahead of the run; the array classes -/
abbrev am_A : Type := (Nat → Nat) × (Nat → Option Nat) × (Nat → ClassId)
def am_rep (ρ : am_A) : am_V → Value
  | .inl z => .int (Int32.ofInt z)
  | .inr (.inl z) => .long (Int64.ofInt z)
  | .inr (.inr p) => if p = 0 then .null else if p < am_SP then .ref (ρ.1 p) else va_rf (ρ.2.1 (p - am_SP))
/-- a value within its bounds; a reference to a cell that is there -/
def am_ok (n : Nat) : am_V → Prop
  | .inl z => -2147483648 ≤ z ∧ z < 2147483648
  | .inr (.inl z) => -9223372036854775808 ≤ z ∧ z < 9223372036854775808
  | .inr (.inr p) => p ≤ n ∨ am_SP ≤ p
theorem am_rep_cat (ρ : am_A) (v : am_V) : (am_rep ρ v).category = am_cat v := by
  rcases v with z | z | p
  · rfl
  · rfl
  · show (if p = 0 then Value.null else if p < am_SP then .ref (ρ.1 p) else va_rf (ρ.2.1 (p - am_SP))).category = 1
    split
    · rfl
    · split
      · rfl
      · cases ρ.2.1 (p - am_SP) <;> rfl
theorem am_rep_ref (ρ : am_A) (p : Nat) : am_rep ρ (.inr (.inr p)) = .null ∨ ∃ a, am_rep ρ (.inr (.inr p)) = .ref a := by
  show (if p = 0 then Value.null else if p < am_SP then .ref (ρ.1 p) else va_rf (ρ.2.1 (p - am_SP))) = .null ∨ ∃ a, (if p = 0 then Value.null else if p < am_SP then .ref (ρ.1 p) else va_rf (ρ.2.1 (p - am_SP))) = .ref a
  split
  · exact Or.inl rfl
  · split
    · exact Or.inr ⟨_, rfl⟩
    · cases ρ.2.1 (p - am_SP) with
      | none => exact Or.inl rfl
      | some a => exact Or.inr ⟨a, rfl⟩
theorem am_ok_mono {n n' : Nat} (h : n ≤ n') {v : am_V} (hv : am_ok n v) : am_ok n' v := by
  rcases v with z | z | p
  · exact hv
  · exact hv
  · exact hv.elim (fun q => Or.inl (Nat.le_trans q h)) Or.inr
/-- the locals that are known, as the kit has them -/
def am_lr (ρ : am_A) (ls : am_L) : List (Nat × Value) := (List.range ls.length).filterMap (fun i => (am_get ls i).map (fun v => (i, am_rep ρ v)))
theorem am_get_lt {ls : am_L} {i : Nat} {v : am_V} (h : am_get ls i = some v) : i < ls.length ∧ ls[i]? = some (some v) := by
  unfold am_get at h
  split at h
  · rename_i w hw
    cases h
    exact ⟨(List.getElem?_eq_some_iff.mp hw).1, hw⟩
  · cases h
theorem am_get_of {ls : am_L} {i : Nat} {v : am_V} (h : ls[i]? = some (some v)) : am_get ls i = some v := by
  unfold am_get; rw [h]
theorem am_lr_mem {ρ : am_A} {ls : am_L} {i : Nat} {v : am_V} (h : am_get ls i = some v) : (i, am_rep ρ v) ∈ am_lr ρ ls :=
  List.mem_filterMap.mpr ⟨i, List.mem_range.mpr (am_get_lt h).1, by rw [h]; rfl⟩
theorem am_lr_inv {ρ : am_A} {ls : am_L} {q : Nat × Value} (h : q ∈ am_lr ρ ls) : ∃ v, am_get ls q.1 = some v ∧ q.2 = am_rep ρ v := by
  obtain ⟨i, -, hi⟩ := List.mem_filterMap.mp h
  cases hg : am_get ls i with
  | none => rw [hg] at hi; cases hi
  | some v => rw [hg] at hi; cases hi; exact ⟨v, hg, rfl⟩
theorem am_lr_at {ρ : am_A} {ls : am_L} {jls : Array Slot} {n i : Nat} {v : am_V} (hl : lv_has jls n (am_lr ρ ls)) (h : am_get ls i = some v) : jls[i]? = some (.val (am_rep ρ v)) := hl.2.2 _ (am_lr_mem h)
/-- fewer known locals -/
theorem am_lr_less {ρ ρ' : am_A} {ls ls' : am_L} {jls : Array Slot} {n : Nat} (hl : lv_has jls n (am_lr ρ ls)) (h : ∀ i v, am_get ls' i = some v → ∃ w, am_get ls i = some w ∧ am_rep ρ w = am_rep ρ' v) : lv_has jls n (am_lr ρ' ls') :=
  ⟨hl.1, hl.2.1, fun q hq => by
    obtain ⟨v, h1, h2⟩ := am_lr_inv hq
    obtain ⟨w, h3, h4⟩ := h _ _ h1
    rw [h2, ← h4]
    exact am_lr_at hl h3⟩
theorem am_pre_len (ls : am_L) (i : Nat) : (am_pre ls i).length = ls.length := by
  unfold am_pre
  split
  · split
    · rfl
    · rw [List.length_set]
  · rfl
theorem am_pre_get {ls : am_L} {i j : Nat} {w : am_V} (h : (am_pre ls i)[j]? = some (some w)) : am_get ls j = some w ∧ (j + 1 = i → am_cat w ≠ 2) := by
  unfold am_pre at h
  by_cases hi0 : i = 0
  · have h2 : ls[j]? = some (some w) := by
      split at h
      · rw [if_pos hi0] at h; exact h
      · exact h
    exact ⟨am_get_of h2, fun q => by omega⟩
  · split at h
    · rename_i z hz
      rw [if_neg hi0] at h
      by_cases hq : j = i - 1
      · subst hq
        rw [List.getElem?_set_self (List.getElem?_eq_some_iff.mp hz).1] at h
        cases h
      · rw [List.getElem?_set_ne (fun c => hq c.symm)] at h
        exact ⟨am_get_of h, fun q => by omega⟩
    · rename_i hz
      refine ⟨am_get_of h, fun q => ?_⟩
      have : j = i - 1 := by omega
      subst this
      rcases w with z | z | z
      · intro c; cases c
      · exact absurd h (hz z)
      · intro c; cases c
theorem am_st_len {ls ls' : am_L} {i : Nat} {v : am_V} (h : am_st ls i v = some ls') : ls'.length = ls.length ∧ i < ls.length ∧ (am_cat v = 2 → i + 1 < ls.length) := by
  unfold am_st at h
  split at h
  · split at h
    · cases h
      exact ⟨by rw [List.length_set, am_pre_len], by assumption, fun q => by omega⟩
    · cases h
  · split at h
    · rename_i hi
      cases h
      exact ⟨by rw [List.length_set, List.length_set, am_pre_len], by omega, fun _ => hi⟩
    · cases h
/-- what is known behind a store -/
theorem am_st_get {ls ls' : am_L} {i j : Nat} {v w : am_V} (h : am_st ls i v = some ls') (hg : am_get ls' j = some w) :
    (j = i ∧ w = v) ∨ (j ≠ i ∧ (am_cat v = 2 → j ≠ i + 1) ∧ am_get ls j = some w ∧ (j + 1 = i → am_cat w ≠ 2)) := by
  obtain ⟨hlen, hil, hil2⟩ := am_st_len h
  obtain ⟨hjl, hj⟩ := am_get_lt hg
  have hpl := am_pre_len ls i
  unfold am_st at h
  split at h
  · rename_i hc
    cases h
    by_cases hji : j = i
    · subst hji
      rw [List.getElem?_set_self (by omega)] at hj
      cases hj
      exact Or.inl ⟨rfl, rfl⟩
    · rw [List.getElem?_set_ne (fun c => hji c.symm)] at hj
      obtain ⟨q1, q2⟩ := am_pre_get hj
      exact Or.inr ⟨hji, fun c => by omega, q1, q2⟩
  · rename_i hc
    split at h
    · rename_i hi
      cases h
      by_cases hji : j = i
      · subst hji
        rw [List.getElem?_set_self (by rw [List.length_set]; omega)] at hj
        cases hj
        exact Or.inl ⟨rfl, rfl⟩
      · rw [List.getElem?_set_ne (fun c => hji c.symm)] at hj
        by_cases hj1 : j = i + 1
        · subst hj1
          rw [List.getElem?_set_self (by omega)] at hj
          cases hj
        · rw [List.getElem?_set_ne (fun c => hj1 c.symm)] at hj
          obtain ⟨q1, q2⟩ := am_pre_get hj
          exact Or.inr ⟨hji, fun _ => hj1, q1, q2⟩
    · cases h
/-- behind a store, as the kit has it -/
theorem am_lr_st1 {ρ : am_A} {ls ls' : am_L} {jls : Array Slot} {n i : Nat} {v : am_V} (h : am_st ls i v = some ls') (hl : lv_has jls n ((i, am_rep ρ v) :: (am_lr ρ ls).filter (fun q => !(q.1 == i) && !(q.1 + 1 == i && q.2.category == 2)))) : lv_has jls n (am_lr ρ ls') := by
  refine ⟨hl.1, hl.2.1, fun q hq => ?_⟩
  obtain ⟨w, h1, h2⟩ := am_lr_inv hq
  refine hl.2.2 q ?_
  rcases am_st_get h h1 with ⟨e1, e2⟩ | ⟨e1, -, e3, e4⟩
  · refine List.mem_cons.mpr (Or.inl ?_)
    rw [← e2, ← e1, ← h2]
  · refine List.mem_cons.mpr (Or.inr (List.mem_filter.mpr ⟨?_, ?_⟩))
    · have := am_lr_mem (ρ := ρ) e3
      rw [← h2] at this
      exact this
    · have e5 : q.2.category = am_cat w := by rw [h2, am_rep_cat]
      by_cases q1 : q.1 + 1 = i
      · have := e4 q1
        simp [e1, e5, this]
      · simp [e1, q1]
theorem am_lr_st2 {ρ : am_A} {ls ls' : am_L} {jls : Array Slot} {n i : Nat} {v : am_V} (h : am_st ls i v = some ls') (hc : am_cat v = 2) (hl : lv_has jls n ((i, am_rep ρ v) :: (am_lr ρ ls).filter (fun q => !(q.1 == i) && (!(q.1 == i + 1) && !(q.1 + 1 == i && q.2.category == 2))))) : lv_has jls n (am_lr ρ ls') := by
  refine ⟨hl.1, hl.2.1, fun q hq => ?_⟩
  obtain ⟨w, h1, h2⟩ := am_lr_inv hq
  refine hl.2.2 q ?_
  rcases am_st_get h h1 with ⟨e1, e2⟩ | ⟨e1, e6, e3, e4⟩
  · refine List.mem_cons.mpr (Or.inl ?_)
    rw [← e2, ← e1, ← h2]
  · refine List.mem_cons.mpr (Or.inr (List.mem_filter.mpr ⟨?_, ?_⟩))
    · have := am_lr_mem (ρ := ρ) e3
      rw [← h2] at this
      exact this
    · have e5 : q.2.category = am_cat w := by rw [h2, am_rep_cat]
      have e7 := e6 hc
      by_cases q1 : q.1 + 1 = i
      · have := e4 q1
        simp [e1, e5, this, e7]
      · simp [e1, q1, e7]
