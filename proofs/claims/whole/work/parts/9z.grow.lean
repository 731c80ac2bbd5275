/-! the table grows along a chain of shapes -/
def ak_Tg (S j0 : Nat) (T P : Nat → List (Int × Int)) : Nat → List (Int × Int) := fun s => if s < S then T s else P (j0 + 1 + (s - S))
def ak_ch (O m : Nat) (P : Nat → List (Int × Int)) : Prop := (∀ j, j < m → ∃ x, ak_it O x ∧ P (j + 1) = P j ++ [x]) ∧ (P m).length ≤ 12
/-- the chain is in the table up to j0 -/
def ak_upto (S j0 m : Nat) (T P : Nat → List (Int × Int)) : Prop := j0 ≤ m ∧ (∀ j, j ≤ j0 → ∃ t, t < S ∧ T t = P j) ∧ ∀ j, j0 < j → j ≤ m → ∀ t, t < S → T t ≠ P j
section GROW
variable {S O j0 m : Nat} {T T' P : Nat → List (Int × Int)} {h : ak_S}
theorem ak_Tok_congr (w : ak_Tok S T O) (e : ∀ s, s < S → T s = T' s) : ak_Tok S T' O := by
  obtain ⟨⟨a1, a2, a3⟩, b, c, d⟩ := w
  refine ⟨⟨a1, a2, by rw [← e 0 (by omega)]; exact a3⟩, fun s hs => by rw [← e s hs]; exact b s hs, fun s h1 hs => ?_, fun s t hs ht he => ?_⟩
  · obtain ⟨t, x, h2, h3⟩ := c s h1 hs
    exact ⟨t, x, h2, by rw [← e s hs, ← e t (by omega)]; exact h3⟩
  · rw [← e s hs, ← e t ht] at he
    exact d s t hs ht he
theorem ak_tC_congr (w : ak_tC S T h) (e : ∀ s, s < S → T s = T' s) : ak_tC S T' h := by
  refine ⟨w.1, fun s hs => ?_⟩
  obtain ⟨c1, c2, c3⟩ := w.2 s hs
  rw [← e s hs]
  exact ⟨c1, c2, fun t x ht he => c3 t x ht (by rw [e t ht]; exact he)⟩
theorem ak_tM_congr (w : ak_tM S T h) (e : ∀ s, s < S → T s = T' s) : ak_tM S T' h := by
  refine ⟨w.1, fun s hs => ?_⟩
  rw [← e s hs]
  exact w.2 s hs
theorem ak_Tg_lt {s : Nat} (hs : s < S) : ak_Tg S j0 T P s = T s := if_pos hs
theorem ak_Tg_at {i : Nat} : ak_Tg S j0 T P (S + i) = P (j0 + 1 + i) := by
  unfold ak_Tg
  rw [if_neg (by omega), show S + i - S = i by omega]
theorem ak_Tg_Ta {i : Nat} : ∀ s, s < S + i + 1 → ak_Ta (S + i) (ak_Tg S j0 T P) (P (j0 + 1 + i)) s = ak_Tg S j0 T P s := by
  intro s hs
  by_cases h : s = S + i
  · rw [h, ak_Ta_eq, ak_Tg_at]
  · rw [ak_Ta_lt (by omega)]
theorem ak_ch_len (c : ak_ch O m P) : ∀ j, j ≤ m → (P j).length = (P 0).length + j := by
  intro j
  induction j with
  | zero => intro _; rfl
  | succ j ih =>
    intro hj
    obtain ⟨x, -, e⟩ := c.1 j (by omega)
    rw [e, List.length_append, ih (by omega)]
    rfl
/-- where the chain's member i behind j0 lies when it was made -/
def ak_Tgi (S t0 i : Nat) : Nat := if i = 0 then t0 else S + i - 1
theorem ak_Tgi_lt {t0 i : Nat} (h : t0 < S) : ak_Tgi S t0 i < S + i := by
  unfold ak_Tgi
  split <;> omega
theorem ak_Tgi_T {t0 i : Nat} (h : t0 < S) (e : T t0 = P j0) : ak_Tg S j0 T P (ak_Tgi S t0 i) = P (j0 + i) := by
  unfold ak_Tgi
  by_cases hi : i = 0
  · rw [if_pos hi, ak_Tg_lt h, e, hi]; rfl
  · rw [if_neg hi, show S + i - 1 = S + (i - 1) by omega, ak_Tg_at, show j0 + 1 + (i - 1) = j0 + i by omega]
theorem ak_Tgi_no (c : ak_ch O m P) (u : ak_upto S j0 m T P) {i : Nat} (hi : j0 + i < m) : ∀ s, s < S + i → ak_Tg S j0 T P s ≠ P (j0 + i + 1) := by
  intro s hs he
  by_cases h : s < S
  · rw [ak_Tg_lt h] at he
    exact u.2.2 _ (by omega) (by omega) s h he
  · rw [show s = S + (s - S) by omega, ak_Tg_at] at he
    have := congrArg List.length he
    have l1 := ak_ch_len c (j0 + 1 + (s - S)) (by omega)
    have l2 := ak_ch_len c (j0 + i + 1) (by omega)
    omega
theorem ak_Tg_Tok (w : ak_Tok S T O) (c : ak_ch O m P) (u : ak_upto S j0 m T P) : ∀ i, j0 + i ≤ m → S + i ≤ 400 → ak_Tok (S + i) (ak_Tg S j0 T P) O := by
  obtain ⟨t0, ht0, e0⟩ := u.2.1 j0 (Nat.le_refl _)
  intro i
  induction i with
  | zero => intro _ _; exact ak_Tok_congr w (fun s hs => (ak_Tg_lt hs).symm)
  | succ i ih =>
    intro h1 h2
    obtain ⟨x, hx, e⟩ := c.1 (j0 + i) (by omega)
    have g := ak_Tgi_T (T := T) (P := P) (j0 := j0) (i := i) ht0 e0
    have := ak_Tok_add (ih (by omega) (by omega)) (ak_Tgi_lt ht0) (by rw [g, ak_ch_len c _ (by omega)]; have := ak_ch_len c m (Nat.le_refl _); have := c.2; omega) hx (by omega) (fun s hs => by rw [g, ← e]; exact ak_Tgi_no c u (by omega) s hs)
    refine ak_Tok_congr this (fun s hs => ?_)
    rw [g, ← e, show j0 + i + 1 = j0 + 1 + i by omega]
    exact ak_Tg_Ta s hs
/-- what is behind j0 goes on being not there -/
theorem ak_upto_of (w : ak_Tok S T O) (c : ak_ch O m P) (h0 : ∃ t, t < S ∧ T t = P 0) : ∃ j0, ak_upto S j0 m T P := by
  have pre : ∀ j, j < m → (∃ t, t < S ∧ T t = P (j + 1)) → ∃ t, t < S ∧ T t = P j := by
    intro j hj ⟨t, ht, e⟩
    obtain ⟨x, -, e2⟩ := c.1 j hj
    obtain ⟨t', h1, h2⟩ := ak_Tok_take w t ht (P j).length (by rw [e, e2]; simp)
    exact ⟨t', by omega, by rw [h2, e, e2, List.take_append_of_le_length (Nat.le_refl _), List.take_length]⟩
  have go : ∀ n, n ≤ m → (∃ j0, ak_upto S j0 n T P) := by
    intro n
    induction n with
    | zero => intro _; exact ⟨0, Nat.le_refl _, fun j hj => by rw [show j = 0 by omega]; exact h0, fun j h1 h2 => by omega⟩
    | succ n ih =>
      intro hn
      obtain ⟨j0, u1, u2, u3⟩ := ih (by omega)
      by_cases h : ∃ t, t < S ∧ T t = P (n + 1)
      · refine ⟨n + 1, Nat.le_refl _, ?_, fun j h1 h2 => by omega⟩
        have dn : ∀ k j, j + k = n + 1 → ∃ t, t < S ∧ T t = P j := by
          intro k
          induction k with
          | zero => intro j hj; rw [show j = n + 1 by omega]; exact h
          | succ k ihk => intro j hj; exact pre j (by omega) (ihk (j + 1) (by omega))
        exact fun j hj => dn (n + 1 - j) j (by omega)
      · refine ⟨j0, by omega, u2, fun j h1 h2 t ht he => ?_⟩
        by_cases hj : j = n + 1
        · subst hj
          exact h ⟨t, ht, he⟩
        · exact u3 j h1 (by omega) t ht he
  exact go m (Nat.le_refl _)
end GROW
/-- the shapes on the way to a shape without its item a -/
def ak_Pg (l : List (Int × Int)) (a j : Nat) : List (Int × Int) := l.take a ++ (l.drop (a + 1)).take j
theorem ak_Pg_succ {l : List (Int × Int)} {a j : Nat} {x : Int × Int} (h : l[a + 1 + j]? = some x) : ak_Pg l a (j + 1) = ak_Pg l a j ++ [x] := by
  unfold ak_Pg
  rw [List.take_add_one, List.getElem?_drop, h, List.append_assoc]
  rfl
theorem ak_Pg_ch {l : List (Int × Int)} {a O : Nat} (ha : a < l.length) (hl : l.length ≤ 12) (hx : ∀ x, x ∈ l → ak_it O x) : ak_ch O (l.length - a - 1) (ak_Pg l a) := by
  refine ⟨fun j hj => ⟨l[a + 1 + j], hx _ (List.getElem_mem _), ak_Pg_succ (List.getElem?_eq_getElem (by omega))⟩, ?_⟩
  unfold ak_Pg
  rw [List.length_append, List.length_take, List.length_take, List.length_drop]
  omega
theorem ak_Pg_len {l : List (Int × Int)} {a j : Nat} (ha : a < l.length) (hj : j ≤ l.length - a - 1) : (ak_Pg l a j).length = a + j := by
  unfold ak_Pg
  rw [List.length_append, List.length_take, List.length_take, List.length_drop]
  omega
theorem ak_Pg_get {l : List (Int × Int)} {a k : Nat} (ha : a < l.length) : (ak_Pg l a (l.length - a - 1))[k]? = if k < a then l[k]? else l[k + 1]? := by
  unfold ak_Pg
  by_cases hk : k < a
  · rw [if_pos hk, List.getElem?_append_left (by rw [List.length_take]; omega), List.getElem?_take, if_pos hk]
  · rw [if_neg hk, List.getElem?_append_right (by rw [List.length_take]; omega), List.length_take, show min a l.length = a by omega, List.getElem?_take, List.getElem?_drop]
    by_cases h2 : k - a < l.length - a - 1
    · rw [if_pos h2, show a + 1 + (k - a) = k + 1 by omega]
    · rw [if_neg h2, List.getElem?_eq_none (by omega)]
