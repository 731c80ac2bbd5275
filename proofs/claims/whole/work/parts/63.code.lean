/-! the one's orders are the other's nodes. C, M: the ints of the one and of the other; T: the text's cell; p: which half of the other's rows.
tag 0: an expression, 1: k arguments (a list), 2: statements, 3: the ons of the guard k from row i on, 4: a statement behind its STEP; lt: twice the method's number, 1 more inside a literal; orders a .. c. -/
abbrev ak_Rel : Type := Nat → Int → Nat → Nat → Nat → Nat → Nat → Prop
def ak_opr (x o : Int) : Prop := (x = 43 ∧ o = 9) ∨ (x = 45 ∧ o = 10) ∨ (x = 42 ∧ o = 11) ∨ (x = 47 ∧ o = 12) ∨ (x = 37 ∧ o = 13) ∨ (x = 60 ∧ o = 14) ∨ (x = 62 ∧ o = 15) ∨ (x = 4 ∧ o = 16)
def ak_Ph (C M : Nat → Nat → Int) (T p : Nat) (R : ak_Rel) (tag : Nat) (x : Int) (k lt i a c : Nat) : Prop := match tag with
  | 0 => ∃ y : Nat, x = (y : Int) ∧ (
      (M 114 y = 1 ∧ c = a + 1 ∧ C (T + 2) a = 0 ∧ C (T + 3) a = M 115 y) ∨
      (M 114 y = 2 ∧ c = a + 1 ∧ C (T + 2) a = 1) ∨
      (M 114 y = 3 ∧ c = a + 1 ∧ C (T + 2) a = 2) ∨
      (M 114 y = 4 ∧ c = a + 1 ∧ C (T + 2) a = 3) ∨
      (M 114 y = 5 ∧ c = a + 1 ∧ C (T + 2) a = 4) ∨
      (M 114 y = 6 ∧ ∃ c1, R 0 (M 115 y) 0 lt 0 a c1 ∧ C (T + 2) c1 = 5 ∧ c = c1 + 1) ∨
      (M 114 y = 7 ∧ c = a + 1 ∧ C (T + 2) a = 6 ∧ C (T + 3) a = M 115 y * 16 + M 116 y ∧ 0 ≤ M 115 y ∧ M 115 y ≤ 20 ∧ 0 ≤ M 116 y ∧ M 116 y < 12) ∨
      (M 114 y = 8 ∧ ∃ (c1 n : Nat), C (T + 2) a = 2 ∧ M 117 y = (n : Int) ∧ n ≤ 4 ∧ R 1 (M 116 y) n lt 0 (a + 1) c1 ∧ C (T + 2) c1 = 18 ∧ C (T + 3) c1 = M 118 y * 8 + (n : Int) ∧ 0 ≤ M 118 y ∧ M 118 y < 150 ∧ c = c1 + 1) ∨
      (M 114 y = 9 ∧ ∃ (c0 c1 n : Nat), R 0 (M 115 y) 0 lt 0 a c0 ∧ M 117 y = (n : Int) ∧ n ≤ 4 ∧ R 1 (M 116 y) n lt 0 c0 c1 ∧ C (T + 2) c1 = 17 ∧ C (T + 3) c1 = M 118 y * 8 + (n : Int) ∧ 0 ≤ M 118 y ∧ M 118 y < 150 ∧ c = c1 + 1) ∨
      (M 114 y = 10 ∧ ∃ (c0 c1 n : Nat), R 0 (M 115 y) 0 lt 0 a c0 ∧ M 117 y = (n : Int) ∧ n ≤ 4 ∧ R 1 (M 116 y) n lt 0 c0 c1 ∧ C (T + 2) c1 = 19 ∧ C (T + 3) c1 = (n : Int) ∧ c = c1 + 1) ∨
      (M 114 y = 11 ∧ ∃ (c0 c1 : Nat), R 0 (M 115 y) 0 lt 0 a c0 ∧ R 0 (M 116 y) 0 lt 0 c0 c1 ∧ ak_opr (M 117 y) (C (T + 2) c1) ∧ c = c1 + 1) ∨
      (M 114 y = 12 ∧ ∃ c1, R 0 (M 115 y) 0 lt 0 a c1 ∧ C (T + 2) c1 = 8 ∧ c = c1 + 1) ∨
      (M 114 y = 13 ∧ ∃ (c1 l : Nat), M 115 y = (l : Int) ∧ l < 60 ∧ C (T + 2) a = 7 ∧ C (T + 3) a = (l : Int) ∧ C (T + 2) (a + 1) = 30 ∧ C (T + 3) (a + 1) = (c : Int) ∧ C (T + 19) l = ((a + 2 : Nat) : Int) ∧ C (T + 18) l = M 136 (60 * p + l) ∧ R 2 (M 135 (60 * p + l)) 0 (2 * (lt / 2) + 1) 0 (a + 2) c1 ∧ C (T + 2) c1 = 34 ∧ c = c1 + 1 ∧ C (T + 20) l = ((lt / 2 : Nat) : Int)))
  | 1 => (k = 0 ∧ x = -1 ∧ a = c) ∨ ∃ (y k' c1 : Nat), x = (y : Int) ∧ k = k' + 1 ∧ R 0 (M 115 y) 0 lt 0 a c1 ∧ R 1 (M 119 y) k' lt 0 c1 c
  | 2 => (x = -1 ∧ a = c) ∨ ∃ (y c1 : Nat), x = (y : Int) ∧ C (T + 2) a = 26 ∧ C (T + 3) a = M 120 y ∧ R 4 x 0 lt 0 (a + 1) c1 ∧ R 2 (M 119 y) 0 lt 0 c1 c
  | 3 => (x = -1 ∧ a = c ∧ ∀ j : Nat, i ≤ j → (j : Int) < C (T + 1) 11 → C (T + 10) j ≠ (k : Int)) ∨
      ∃ (y i1 c1 : Nat), x = (y : Int) ∧ i ≤ i1 ∧ (i1 : Int) < C (T + 1) 11 ∧ C (T + 10) i1 = (k : Int) ∧ (∀ j : Nat, i ≤ j → j < i1 → C (T + 10) j ≠ (k : Int)) ∧ C (T + 7) i1 = M 116 y ∧ C (T + 8) i1 = M 117 y ∧ 0 ≤ M 117 y ∧ M 117 y < 12 ∧ C (T + 9) i1 = (a : Int) ∧
        R 2 (M 115 y) 0 lt 0 a c1 ∧ C (T + 2) c1 = 37 ∧ C (T + 3) c1 = (k : Int) ∧ R 3 (M 119 y) k lt (i1 + 1) (c1 + 1) c
  | _ => ∃ y : Nat, x = (y : Int) ∧ (
      (M 114 y = 20 ∧ ∃ c1, R 0 (M 115 y) 0 lt 0 a c1 ∧ C (T + 2) c1 = 27 ∧ C (T + 3) c1 = M 116 y ∧ 0 ≤ M 116 y ∧ M 116 y < 12 ∧ c = c1 + 1) ∨
      (M 114 y = 21 ∧ ∃ c1, R 0 (M 115 y) 0 lt 0 a c1 ∧ C (T + 2) c1 = 27 ∧ C (T + 3) c1 = M 116 y * 16 + M 117 y ∧ 0 ≤ M 116 y ∧ M 116 y ≤ 20 ∧ 0 ≤ M 117 y ∧ M 117 y < 12 ∧ c = c1 + 1) ∨
      (M 114 y = 22 ∧ ∃ c1, R 0 (M 115 y) 0 lt 0 a c1 ∧ C (T + 2) c1 = 28 ∧ c = c1 + 1) ∨
      (M 114 y = 23 ∧ ∃ (c0 c1 : Nat), R 0 (M 115 y) 0 lt 0 a c0 ∧ R 0 (M 116 y) 0 lt 0 c0 c1 ∧ C (T + 2) c1 = 20 ∧ C (T + 3) c1 = M 117 y ∧ 0 ≤ M 117 y ∧ M 117 y < 150 ∧ c = c1 + 1) ∨
      (M 114 y = 24 ∧ ∃ (c0 c1 : Nat), R 0 (M 115 y) 0 lt 0 a c0 ∧ R 0 (M 116 y) 0 lt 0 c0 c1 ∧ C (T + 2) c1 = 21 ∧ C (T + 3) c1 = M 117 y ∧ 0 ≤ M 117 y ∧ M 117 y < 100 ∧ c = c1 + 1) ∨
      (M 114 y = 25 ∧ ∃ c1, R 0 (M 115 y) 0 lt 0 a c1 ∧ C (T + 2) c1 = 22 ∧ C (T + 3) c1 = M 118 y * 128 + M 117 y ∧ 0 ≤ M 117 y ∧ M 117 y < 100 ∧ 0 ≤ M 118 y ∧ M 118 y < 40 ∧ c = c1 + 1) ∨
      (M 114 y = 26 ∧ ∃ c1, R 0 (M 115 y) 0 lt 0 a c1 ∧ C (T + 2) c1 = 23 ∧ C (T + 3) c1 = M 117 y ∧ 0 ≤ M 117 y ∧ M 117 y < 100 ∧ c = c1 + 1) ∨
      ((M 114 y = 27 ∨ M 114 y = 28) ∧ ∃ (c0 c1 : Nat), R 0 (M 115 y) 0 lt 0 a c0 ∧ R 0 (M 116 y) 0 lt 0 c0 c1 ∧ C (T + 2) c1 = M 114 y - 3 ∧ c = c1 + 1) ∨
      (M 114 y = 29 ∧ ∃ (c1 c2 : Nat), R 0 (M 115 y) 0 lt 0 a c1 ∧ C (T + 2) c1 = 31 ∧ R 2 (M 116 y) 0 lt 0 (c1 + 1) c2 ∧
        ((M 117 y = -1 ∧ C (T + 3) c1 = (c2 : Int) ∧ c = c2) ∨ (C (T + 3) c1 = ((c2 + 1 : Nat) : Int) ∧ C (T + 2) c2 = 30 ∧ C (T + 3) c2 = (c : Int) ∧ R 2 (M 117 y) 0 lt 0 (c2 + 1) c))) ∨
      (M 114 y = 30 ∧ ∃ (c1 c2 : Nat), R 0 (M 115 y) 0 lt 0 a c1 ∧ C (T + 2) c1 = 31 ∧ C (T + 3) c1 = (c : Int) ∧ R 2 (M 116 y) 0 lt 0 (c1 + 1) c2 ∧ C (T + 2) c2 = 30 ∧ C (T + 3) c2 + 1 = (a : Int) ∧ c = c2 + 1) ∨
      (M 114 y = 31 ∧ ∃ c1, R 0 (M 115 y) 0 lt 0 a c1 ∧ C (T + 2) c1 = (if lt % 2 = 0 then 33 else 32) ∧ c = c1 + 1) ∨
      (M 114 y = 32 ∧ ∃ c1, R 0 (M 115 y) 0 lt 0 a c1 ∧ C (T + 2) c1 = 33 ∧ c = c1 + 1) ∨
      (M 114 y = 33 ∧ ∃ c1, R 0 (M 115 y) 0 lt 0 a c1 ∧ C (T + 2) c1 = 29 ∧ c = c1 + 1) ∨
      (M 114 y = 34 ∧ 20 ≤ M 116 y ∧ M 116 y ≤ 99 ∧ ((M 115 y = -1 ∧ C (T + 2) a = 1 ∧ C (T + 2) (a + 1) = 35 ∧ C (T + 3) (a + 1) = M 116 y ∧ c = a + 2) ∨
        ∃ c1, R 0 (M 115 y) 0 lt 0 a c1 ∧ C (T + 2) c1 = 35 ∧ C (T + 3) c1 = M 116 y ∧ c = c1 + 1)) ∨
      (M 114 y = 35 ∧ ∃ (c1 c2 g i0 : Nat), C (T + 2) a = 36 ∧ C (T + 3) a = (g : Int) ∧ g < 500 ∧ R 2 (M 115 y) 0 lt 0 (a + 1) c1 ∧ C (T + 2) c1 = 37 ∧ C (T + 3) c1 = (g : Int) ∧ C (T + 4) g = (i0 : Int) ∧ R 3 (M 116 y) g lt i0 (c1 + 1) c2 ∧
        C (T + 6) g = (c : Int) ∧ ((M 118 y ≠ 1 ∧ C (T + 5) g = -1 ∧ c = c2) ∨ (M 118 y = 1 ∧ C (T + 5) g = (c2 : Int) ∧ ∃ c3, R 2 (M 117 y) 0 lt 0 c2 c3 ∧ C (T + 2) c3 = 38 ∧ C (T + 3) c3 = (g : Int) ∧ c = c3 + 1))))
theorem ak_Ph_mono {C M : Nat → Nat → Int} {T p : Nat} {R R' : ak_Rel} (hR : ∀ tag x k lt i a c, R tag x k lt i a c → R' tag x k lt i a c) {tag : Nat} {x : Int} {k lt i a c : Nat} (h : ak_Ph C M T p R tag x k lt i a c) : ak_Ph C M T p R' tag x k lt i a c := by
  unfold ak_Ph at h ⊢
  split at h
  · obtain ⟨y, hx, h⟩ := h
    refine ⟨y, hx, ?_⟩
    rcases h with h | h | h | h | h | ⟨h0, c1, h1, h2⟩ | h | ⟨h0, c1, n, h1, h2, h3, h4, h5⟩ | ⟨h0, c0, c1, n, h1, h2, h3, h4, h5⟩ | ⟨h0, c0, c1, n, h1, h2, h3, h4, h5⟩ | ⟨h0, c0, c1, h1, h2, h3⟩ | ⟨h0, c1, h1, h2⟩ | ⟨h0, c1, l, h1, h2, h3, h4, h5, h6, h7, h8, h9, h10⟩
    · exact Or.inl h
    · exact Or.inr (Or.inl h)
    · exact Or.inr (Or.inr (Or.inl h))
    · exact Or.inr (Or.inr (Or.inr (Or.inl h)))
    · exact Or.inr (Or.inr (Or.inr (Or.inr (Or.inl h))))
    · exact Or.inr (Or.inr (Or.inr (Or.inr (Or.inr (Or.inl ⟨h0, c1, hR _ _ _ _ _ _ _ h1, h2⟩)))))
    · exact Or.inr (Or.inr (Or.inr (Or.inr (Or.inr (Or.inr (Or.inl h))))))
    · exact Or.inr (Or.inr (Or.inr (Or.inr (Or.inr (Or.inr (Or.inr (Or.inl ⟨h0, c1, n, h1, h2, h3, hR _ _ _ _ _ _ _ h4, h5⟩)))))))
    · exact Or.inr (Or.inr (Or.inr (Or.inr (Or.inr (Or.inr (Or.inr (Or.inr (Or.inl ⟨h0, c0, c1, n, hR _ _ _ _ _ _ _ h1, h2, h3, hR _ _ _ _ _ _ _ h4, h5⟩))))))))
    · exact Or.inr (Or.inr (Or.inr (Or.inr (Or.inr (Or.inr (Or.inr (Or.inr (Or.inr (Or.inl ⟨h0, c0, c1, n, hR _ _ _ _ _ _ _ h1, h2, h3, hR _ _ _ _ _ _ _ h4, h5⟩)))))))))
    · exact Or.inr (Or.inr (Or.inr (Or.inr (Or.inr (Or.inr (Or.inr (Or.inr (Or.inr (Or.inr (Or.inl ⟨h0, c0, c1, hR _ _ _ _ _ _ _ h1, hR _ _ _ _ _ _ _ h2, h3⟩))))))))))
    · exact Or.inr (Or.inr (Or.inr (Or.inr (Or.inr (Or.inr (Or.inr (Or.inr (Or.inr (Or.inr (Or.inr (Or.inl ⟨h0, c1, hR _ _ _ _ _ _ _ h1, h2⟩)))))))))))
    · exact Or.inr (Or.inr (Or.inr (Or.inr (Or.inr (Or.inr (Or.inr (Or.inr (Or.inr (Or.inr (Or.inr (Or.inr ⟨h0, c1, l, h1, h2, h3, h4, h5, h6, h7, h8, hR _ _ _ _ _ _ _ h9, h10⟩)))))))))))
  · rcases h with h | ⟨y, k', c1, h1, h2, h3, h4⟩
    · exact Or.inl h
    · exact Or.inr ⟨y, k', c1, h1, h2, hR _ _ _ _ _ _ _ h3, hR _ _ _ _ _ _ _ h4⟩
  · rcases h with h | ⟨y, c1, h1, h2, h3, h4, h5⟩
    · exact Or.inl h
    · exact Or.inr ⟨y, c1, h1, h2, h3, hR _ _ _ _ _ _ _ h4, hR _ _ _ _ _ _ _ h5⟩
  · rcases h with h | ⟨y, i1, c1, h1, h2, h3, h4, h5, h6, h7, h8, h9, h10, h11, h12, h13, h14⟩
    · exact Or.inl h
    · exact Or.inr ⟨y, i1, c1, h1, h2, h3, h4, h5, h6, h7, h8, h9, h10, hR _ _ _ _ _ _ _ h11, h12, h13, hR _ _ _ _ _ _ _ h14⟩
  · obtain ⟨y, hx, h⟩ := h
    refine ⟨y, hx, ?_⟩
    rcases h with ⟨h0, c1, h1, h2⟩ | ⟨h0, c1, h1, h2⟩ | ⟨h0, c1, h1, h2⟩ | ⟨h0, c0, c1, h1, h2, h3⟩ | ⟨h0, c0, c1, h1, h2, h3⟩ | ⟨h0, c1, h1, h2⟩ | ⟨h0, c1, h1, h2⟩ | ⟨h0, c0, c1, h1, h2, h3⟩ | ⟨h0, c1, c2, h1, h2, h3, h4⟩ | ⟨h0, c1, c2, h1, h2, h3, h4, h5⟩ | ⟨h0, c1, h1, h2⟩ | ⟨h0, c1, h1, h2⟩ | ⟨h0, c1, h1, h2⟩ | ⟨h0, h1, h2, h3⟩ | ⟨h0, c1, c2, g, i0, h1, h2, h3, h4, h5, h6, h7, h8, h9, h10⟩
    · exact Or.inl ⟨h0, c1, hR _ _ _ _ _ _ _ h1, h2⟩
    · exact Or.inr (Or.inl ⟨h0, c1, hR _ _ _ _ _ _ _ h1, h2⟩)
    · exact Or.inr (Or.inr (Or.inl ⟨h0, c1, hR _ _ _ _ _ _ _ h1, h2⟩))
    · exact Or.inr (Or.inr (Or.inr (Or.inl ⟨h0, c0, c1, hR _ _ _ _ _ _ _ h1, hR _ _ _ _ _ _ _ h2, h3⟩)))
    · exact Or.inr (Or.inr (Or.inr (Or.inr (Or.inl ⟨h0, c0, c1, hR _ _ _ _ _ _ _ h1, hR _ _ _ _ _ _ _ h2, h3⟩))))
    · exact Or.inr (Or.inr (Or.inr (Or.inr (Or.inr (Or.inl ⟨h0, c1, hR _ _ _ _ _ _ _ h1, h2⟩)))))
    · exact Or.inr (Or.inr (Or.inr (Or.inr (Or.inr (Or.inr (Or.inl ⟨h0, c1, hR _ _ _ _ _ _ _ h1, h2⟩))))))
    · exact Or.inr (Or.inr (Or.inr (Or.inr (Or.inr (Or.inr (Or.inr (Or.inl ⟨h0, c0, c1, hR _ _ _ _ _ _ _ h1, hR _ _ _ _ _ _ _ h2, h3⟩)))))))
    · refine Or.inr (Or.inr (Or.inr (Or.inr (Or.inr (Or.inr (Or.inr (Or.inr (Or.inl ⟨h0, c1, c2, hR _ _ _ _ _ _ _ h1, h2, hR _ _ _ _ _ _ _ h3, ?_⟩))))))))
      rcases h4 with h4 | ⟨h4, h5, h6, h7⟩
      · exact Or.inl h4
      · exact Or.inr ⟨h4, h5, h6, hR _ _ _ _ _ _ _ h7⟩
    · exact Or.inr (Or.inr (Or.inr (Or.inr (Or.inr (Or.inr (Or.inr (Or.inr (Or.inr (Or.inl ⟨h0, c1, c2, hR _ _ _ _ _ _ _ h1, h2, h3, hR _ _ _ _ _ _ _ h4, h5⟩)))))))))
    · exact Or.inr (Or.inr (Or.inr (Or.inr (Or.inr (Or.inr (Or.inr (Or.inr (Or.inr (Or.inr (Or.inl ⟨h0, c1, hR _ _ _ _ _ _ _ h1, h2⟩))))))))))
    · exact Or.inr (Or.inr (Or.inr (Or.inr (Or.inr (Or.inr (Or.inr (Or.inr (Or.inr (Or.inr (Or.inr (Or.inl ⟨h0, c1, hR _ _ _ _ _ _ _ h1, h2⟩)))))))))))
    · exact Or.inr (Or.inr (Or.inr (Or.inr (Or.inr (Or.inr (Or.inr (Or.inr (Or.inr (Or.inr (Or.inr (Or.inr (Or.inl ⟨h0, c1, hR _ _ _ _ _ _ _ h1, h2⟩))))))))))))
    · refine Or.inr (Or.inr (Or.inr (Or.inr (Or.inr (Or.inr (Or.inr (Or.inr (Or.inr (Or.inr (Or.inr (Or.inr (Or.inr (Or.inl ⟨h0, h1, h2, ?_⟩)))))))))))))
      rcases h3 with h3 | ⟨c1, h3, h4⟩
      · exact Or.inl h3
      · exact Or.inr ⟨c1, hR _ _ _ _ _ _ _ h3, h4⟩
    · refine Or.inr (Or.inr (Or.inr (Or.inr (Or.inr (Or.inr (Or.inr (Or.inr (Or.inr (Or.inr (Or.inr (Or.inr (Or.inr (Or.inr ⟨h0, c1, c2, g, i0, h1, h2, h3, hR _ _ _ _ _ _ _ h4, h5, h6, h7, hR _ _ _ _ _ _ _ h8, h9, ?_⟩)))))))))))))
      rcases h10 with h10 | ⟨h10, h11, c3, h12, h13⟩
      · exact Or.inl h10
      · exact Or.inr ⟨h10, h11, c3, hR _ _ _ _ _ _ _ h12, h13⟩
/-- the least such relation -/
def ak_T3 (C M : Nat → Nat → Int) (T p : Nat) : ak_Rel := fun tag x k lt i a c => ∀ R : ak_Rel, (∀ tag x k lt i a c, ak_Ph C M T p R tag x k lt i a c → R tag x k lt i a c) → R tag x k lt i a c
theorem ak_T3_fold {C M : Nat → Nat → Int} {T p : Nat} {tag : Nat} {x : Int} {k lt i a c : Nat} (h : ak_Ph C M T p (ak_T3 C M T p) tag x k lt i a c) : ak_T3 C M T p tag x k lt i a c :=
  fun R hR => hR _ _ _ _ _ _ _ (ak_Ph_mono (fun _ _ _ _ _ _ _ w => w R hR) h)
theorem ak_T3_open {C M : Nat → Nat → Int} {T p : Nat} {tag : Nat} {x : Int} {k lt i a c : Nat} (h : ak_T3 C M T p tag x k lt i a c) : ak_Ph C M T p (ak_T3 C M T p) tag x k lt i a c :=
  h (ak_Ph C M T p (ak_T3 C M T p)) (fun _ _ _ _ _ _ _ w => ak_Ph_mono (fun _ _ _ _ _ _ _ v => ak_T3_fold v) w)
