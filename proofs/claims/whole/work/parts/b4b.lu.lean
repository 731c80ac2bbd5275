/-! what is found stays found, as long as nothing that was looked at changes -/
section LUS
variable {S S' O O' o : Nat} {T T' : Nat → List (Int × Int)} {sh sh' : Nat → Nat} {nm start : Int}
theorem ak_sr_congr : ∀ (l : List Nat) (k : Nat) (c : Bool), (∀ i, i ∈ l → T' (sh' i) = T (sh i)) → ak_sr T' sh' nm start l k c = ak_sr T sh nm start l k c := by
  intro l
  induction l with
  | nil => intro k c _; rfl
  | cons x l ih =>
    intro k c h
    unfold ak_sr
    rw [h x (List.mem_cons_self ..), ih (k + 1) _ (fun i hi => h i (List.mem_cons_of_mem _ hi))]
theorem ak_sr_ge : ∀ (l : List Nat) (k : Nat) (c : Bool), (ak_sr T sh nm start l k c).1 < 0 ∨ (k : Int) ≤ (ak_sr T sh nm start l k c).1 := by
  intro l
  induction l with
  | nil => intro k c; exact Or.inl (show (-1 : Int) < 0 by decide)
  | cons x l ih =>
    intro k c
    unfold ak_sr
    split
    · exact Or.inr (Int.le_refl _)
    · have := ih (k + 1) (c || decide ((x : Int) = start - 1))
      omega
theorem ak_sr_le : ∀ (l : List Nat) (k : Nat) (c : Bool), (ak_sr T sh nm start l k c).1 < (k : Int) + (l.length : Int) := by
  intro l
  induction l with
  | nil =>
    intro k c
    have : ak_sr T sh nm start [] k c = (-1, -1) := rfl
    rw [this]
    show (-1 : Int) < _
    omega
  | cons x l ih =>
    intro k c
    unfold ak_sr
    rw [List.length_cons]
    split
    · show (k : Int) < _
      omega
    · have := ih (k + 1) (c || decide ((x : Int) = start - 1))
      omega
theorem ak_sr_ok : ∀ (l : List Nat) (k : Nat) (c : Bool), 0 ≤ (ak_sr T sh nm start l k c).1 → ∃ i, i ∈ l ∧ (ak_sr T sh nm start l k c).2 = (i : Int) ∧ 0 ≤ ak_look (T (sh i)) nm false := by
  intro l
  induction l with
  | nil =>
    intro k c h
    have : ak_sr T sh nm start [] k c = (-1, -1) := rfl
    rw [this] at h
    exact absurd h (by decide)
  | cons x l ih =>
    intro k c h
    unfold ak_sr at h ⊢
    split
    · rename_i g
      exact ⟨x, List.mem_cons_self .., rfl, g.2⟩
    · rename_i g
      rw [if_neg g] at h
      obtain ⟨i, a, b⟩ := ih _ _ h
      exact ⟨i, List.mem_cons_of_mem _ a, b⟩
theorem ak_sr_pre {r r' : List Nat} : ∀ (pre : List Nat) (k : Nat) (c : Bool), (∀ i, i ∈ pre → T' (sh' i) = T (sh i)) → ((ak_sr T sh nm start (pre ++ r) k c).1 < 0 ∨ (k : Int) + (pre.length : Int) ≤ (ak_sr T sh nm start (pre ++ r) k c).1) ∨ ak_sr T' sh' nm start (pre ++ r') k c = ak_sr T sh nm start (pre ++ r) k c := by
  intro pre
  induction pre with
  | nil =>
    intro k c _
    have := ak_sr_ge (T := T) (sh := sh) (nm := nm) (start := start) r k c
    refine Or.inl ?_
    show (ak_sr T sh nm start r k c).1 < 0 ∨ (k : Int) + ((0 : Nat) : Int) ≤ (ak_sr T sh nm start r k c).1
    omega
  | cons x pre ih =>
    intro k c h
    have hx := h x (List.mem_cons_self ..)
    show ((ak_sr T sh nm start (x :: (pre ++ r)) k c).1 < 0 ∨ (k : Int) + ((pre.length + 1 : Nat) : Int) ≤ (ak_sr T sh nm start (x :: (pre ++ r)) k c).1) ∨ ak_sr T' sh' nm start (x :: (pre ++ r')) k c = ak_sr T sh nm start (x :: (pre ++ r)) k c
    unfold ak_sr
    rw [hx]
    split
    · exact Or.inr rfl
    · rcases ih (k + 1) (c || decide ((x : Int) = start - 1)) (fun i hi => h i (List.mem_cons_of_mem _ hi)) with g | g
      · refine Or.inl ?_
        omega
      · exact Or.inr g
theorem ak_lu_new {s : Nat} (W : ak_Tok S T O) (hs : ∀ i, i < O → sh i < S) (W' : ak_Tok S' T' O') (hs' : ∀ i, i < O' → sh' i < S') (hO : O ≤ O') (he : ∀ i, i < O → T' (sh' i) = T (sh i)) (h : s < S) (hT : T' s = T s) : ak_lu T' sh' O' s nm start = ak_lu T sh O s nm start := by
  unfold ak_lu
  have wl := ak_W_len W hs _ [T s] ak_vn (ak_sok_row W h) (Nat.lt_succ_self _)
  rw [hT, ak_Wy_new W hs W' hs' hO he h hT, ak_sr_congr (ak_Wy T sh O s) _ _ (fun i hi => he i (wl.2 i hi).1)]
theorem ak_lu_chg {s : Nat} (W : ak_Tok S T O) (hs : ∀ i, i < O → sh i < S) (W' : ak_Tok S' T' O) (hs' : ∀ i, i < O → sh' i < S') (he : ∀ i, i < O → i ≠ o → T' (sh' i) = T (sh i)) (h : s < S) (hT : T' s = T s) (hr : o ∉ ak_rst (ak_Wy T sh O s) (ak_lu T sh O s nm start).1) : ak_lu T' sh' O s nm start = ak_lu T sh O s nm start := by
  have wl := ak_W_len W hs _ [T s] ak_vn (ak_sok_row W h) (Nat.lt_succ_self _)
  have e' : ak_Wy T' sh' O s = ak_W T' sh' O [T s] ak_vn := by unfold ak_Wy; rw [hT]
  by_cases hz : start = 0 ∧ 0 ≤ ak_look (T s) nm false
  · unfold ak_lu
    rw [hT, if_pos hz, if_pos hz]
  · have e1 : ak_lu T sh O s nm start = ak_sr T sh nm start (ak_Wy T sh O s) 1 (decide (start ≤ 0)) := if_neg hz
    have e2 : ak_lu T' sh' O s nm start = ak_sr T' sh' nm start (ak_Wy T' sh' O s) 1 (decide (start ≤ 0)) := if_neg (by rw [hT]; exact hz)
    rw [e1] at hr
    rw [e1, e2, e']
    rcases ak_W_chg (o := o) W hs W' hs' (Nat.le_refl _) he _ [T s] ak_vn (ak_sok_row W h) (Nat.lt_succ_self _) with g | ⟨pre, r, r', g1, g2, g3⟩
    · rw [g.1]
      exact ak_sr_congr _ _ _ (fun i hi => he i (wl.2 i hi).1 (fun z => g.2 (by rw [← z]; exact hi)))
    · have e : ak_Wy T sh O s = pre ++ o :: r := g1
      rw [e] at hr ⊢
      rw [g2]
      rcases ak_sr_pre (T := T) (sh := sh) (nm := nm) (start := start) (r := o :: r) (r' := o :: r') (T' := T') (sh' := sh') pre 1 (decide (start ≤ 0)) (fun i hi => he i (wl.2 i (by rw [g1]; exact List.mem_append_left _ hi)).1 (fun z => g3 (by rw [← z]; exact hi))) with g | g
      · refine absurd ?_ hr
        unfold ak_rst
        generalize (ak_sr T sh nm start (pre ++ o :: r) 1 (decide (start ≤ 0))).1 = p at g
        by_cases hp : p < 0
        · rw [if_pos hp]; simp
        · rw [if_neg hp, List.take_append, List.take_of_length_le (by omega)]
          refine List.mem_append_right _ ?_
          obtain ⟨n, hn⟩ : ∃ n, p.toNat - pre.length = n + 1 := ⟨p.toNat - pre.length - 1, by omega⟩
          rw [hn]
          simp
      · exact g
theorem ak_lu_le {s : Nat} : (ak_lu T sh O s nm start).1 ≤ ((ak_Wy T sh O s).length : Int) := by
  unfold ak_lu
  split
  · show (0 : Int) ≤ _
    omega
  · have := ak_sr_le (T := T) (sh := sh) (nm := nm) (start := start) (ak_Wy T sh O s) 1 (decide (start ≤ 0))
    omega
/-- where a name is found -/
theorem ak_lu_ok {s : Nat} (W : ak_Tok S T O) (hs : ∀ i, i < O → sh i < S) (h : s < S) (g : 0 ≤ (ak_lu T sh O s nm start).1) : ((ak_lu T sh O s nm start).1 = 0 ∧ start = 0 ∧ 0 ≤ ak_look (T s) nm false) ∨ (1 ≤ (ak_lu T sh O s nm start).1 ∧ (ak_lu T sh O s nm start).1 ≤ 200 ∧ ∃ i, i < O ∧ (ak_lu T sh O s nm start).2 = (i : Int) ∧ 0 ≤ ak_look (T (sh i)) nm false) ∨ 200 < O := by
  have wl := ak_W_len W hs _ [T s] ak_vn (ak_sok_row W h) (Nat.lt_succ_self _)
  have le := ak_lu_le (T := T) (sh := sh) (O := O) (nm := nm) (start := start) (s := s)
  have un := ak_un_le (v := ak_vn) O
  have le2 : (ak_Wy T sh O s).length ≤ O := Nat.le_trans wl.1 un
  by_cases hz : start = 0 ∧ 0 ≤ ak_look (T s) nm false
  · have e1 : ak_lu T sh O s nm start = (0, -1) := if_pos hz
    exact Or.inl ⟨by rw [e1], hz⟩
  · have e1 : ak_lu T sh O s nm start = ak_sr T sh nm start (ak_Wy T sh O s) 1 (decide (start ≤ 0)) := if_neg hz
    rw [e1] at g le ⊢
    obtain ⟨i, a, b, c⟩ := ak_sr_ok _ _ _ g
    have := ak_sr_ge (T := T) (sh := sh) (nm := nm) (start := start) (ak_Wy T sh O s) 1 (decide (start ≤ 0))
    by_cases h2 : 200 < O
    · exact Or.inr (Or.inr h2)
    · exact Or.inr (Or.inl ⟨by omega, by omega, i, (wl.2 i a).1, b, c⟩)
end LUS
