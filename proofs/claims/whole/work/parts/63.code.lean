/-! the one's orders are the other's nodes. C, M: the ints of the one and of the other; T: the text's cell; p: which half of the other's rows.
tag 0: an expression, k: so many values at most at a time, i: so many jobs at most at a time; 1: k arguments (a list), lt / 1000: values for each, i: jobs; 2: statements, lt / 1000: guards at a time, i: jobs; 3: the ons of the guard k from row i on, lt / 32000: jobs; 4: a statement behind its STEP;
lt % 1000: the method's number and 40 for each literal around; orders a .. c. -/
abbrev ak_Rel : Type := Nat → Int → Nat → Nat → Nat → Nat → Nat → Prop
def ak_opr (x o : Int) : Prop := (x = 43 ∧ o = 9) ∨ (x = 45 ∧ o = 10) ∨ (x = 42 ∧ o = 11) ∨ (x = 47 ∧ o = 12) ∨ (x = 37 ∧ o = 13) ∨ (x = 60 ∧ o = 14) ∨ (x = 62 ∧ o = 15) ∨ (x = 4 ∧ o = 16)
/-- an expression of a statement; two of them -/
def ak_RX (R : ak_Rel) (x : Int) (lt i a c : Nat) : Prop := ∃ j H : Nat, H ≤ 150 ∧ j + 1 ≤ i ∧ R 0 x H (lt % 1000) j a c
def ak_RX2 (R : ak_Rel) (x x2 : Int) (lt i a c0 c : Nat) : Prop := ∃ j j2 H H2 : Nat, H ≤ 150 ∧ H2 ≤ 150 ∧ j + j2 + 1 ≤ i ∧ R 0 x H (lt % 1000) j a c0 ∧ R 0 x2 H2 (lt % 1000) j2 c0 c
def ak_Ph (C M : Nat → Nat → Int) (T p : Nat) (R : ak_Rel) (tag : Nat) (x : Int) (k lt i a c : Nat) : Prop := match tag with
  | 0 => ∃ y : Nat, x = (y : Int) ∧ (1 ≤ k ∧ 1 ≤ i) ∧ (
      (M 114 y = 1 ∧ c = a + 1 ∧ C (T + 2) a = 0 ∧ C (T + 3) a = M 115 y ∧ 0 ≤ M 115 y ∧ M 115 y < 1000000000) ∨
      (M 114 y = 2 ∧ c = a + 1 ∧ C (T + 2) a = 1) ∨
      (M 114 y = 3 ∧ c = a + 1 ∧ C (T + 2) a = 2) ∨
      (M 114 y = 4 ∧ c = a + 1 ∧ C (T + 2) a = 3) ∨
      (M 114 y = 5 ∧ c = a + 1 ∧ C (T + 2) a = 4) ∨
      (M 114 y = 6 ∧ ∃ c1 j : Nat, (j + 1 ≤ i ∧ R 0 (M 115 y) k lt j a c1) ∧ C (T + 2) c1 = 5 ∧ c = c1 + 1) ∨
      (M 114 y = 7 ∧ c = a + 1 ∧ C (T + 2) a = 6 ∧ C (T + 3) a = M 115 y * 16 + M 116 y ∧ 0 ≤ M 115 y ∧ M 115 y ≤ ((lt / 40 : Nat) : Int) ∧ 0 ≤ M 116 y ∧ M 116 y < 12) ∨
      (M 114 y = 8 ∧ ∃ (c1 n j H : Nat), C (T + 2) a = 2 ∧ M 117 y = (n : Int) ∧ n ≤ 4 ∧ (j + 1 ≤ i ∧ (n = 0 ∨ H + 4 ≤ k) ∧ R 1 (M 116 y) n (lt + 1000 * H) j (a + 1) c1) ∧ C (T + 2) c1 = 18 ∧ C (T + 3) c1 = M 118 y * 8 + (n : Int) ∧ 0 ≤ M 118 y ∧ M 118 y < M 127 p ∧ c = c1 + 1) ∨
      (M 114 y = 9 ∧ ∃ (c0 c1 n j j2 H : Nat), (j + j2 + 1 ≤ i ∧ (n = 0 ∨ H + 4 ≤ k) ∧ R 0 (M 115 y) k lt j a c0) ∧ M 117 y = (n : Int) ∧ n ≤ 4 ∧ R 1 (M 116 y) n (lt + 1000 * H) j2 c0 c1 ∧ C (T + 2) c1 = 17 ∧ C (T + 3) c1 = M 118 y * 8 + (n : Int) ∧ 0 ≤ M 118 y ∧ M 118 y < M 127 p ∧ c = c1 + 1) ∨
      (M 114 y = 10 ∧ ∃ (c0 c1 n j j2 H : Nat), (j + j2 + 1 ≤ i ∧ (n = 0 ∨ H + 4 ≤ k) ∧ R 0 (M 115 y) k lt j a c0) ∧ M 117 y = (n : Int) ∧ n ≤ 4 ∧ R 1 (M 116 y) n (lt + 1000 * H) j2 c0 c1 ∧ C (T + 2) c1 = 19 ∧ C (T + 3) c1 = (n : Int) ∧ c = c1 + 1) ∨
      (M 114 y = 11 ∧ ∃ (c0 c1 j j2 H : Nat), (j + j2 + 1 ≤ i ∧ H + 1 ≤ k ∧ R 0 (M 115 y) k lt j a c0) ∧ R 0 (M 116 y) H lt j2 c0 c1 ∧ ak_opr (M 117 y) (C (T + 2) c1) ∧ c = c1 + 1) ∨
      (M 114 y = 12 ∧ ∃ c1 j : Nat, (j + 1 ≤ i ∧ R 0 (M 115 y) k lt j a c1) ∧ C (T + 2) c1 = 8 ∧ c = c1 + 1) ∨
      (M 114 y = 13 ∧ ∃ (c1 l j G : Nat), M 115 y = (l : Int) ∧ l < 60 ∧ C (T + 2) a = 7 ∧ C (T + 3) a = (l : Int) ∧ C (T + 2) (a + 1) = 30 ∧ C (T + 3) (a + 1) = (c : Int) ∧ C (T + 19) l = ((a + 2 : Nat) : Int) ∧ C (T + 18) l = M 136 (60 * p + l) ∧ (G ≤ 21 ∧ (j ≤ 6160 ∧ lt + 40 < 1000) ∧ R 2 (M 135 (60 * p + l)) 0 (lt + 40 + 1000 * G) j (a + 2) c1) ∧ C (T + 2) c1 = 34 ∧ c = c1 + 1 ∧ C (T + 20) l = ((lt % 40 : Nat) : Int)))
  | 1 => (k = 0 ∧ x = -1 ∧ a = c) ∨ ∃ (y k' c1 j j2 : Nat), x = (y : Int) ∧ k = k' + 1 ∧ (j + j2 ≤ i ∧ R 0 (M 115 y) (lt / 1000) (lt % 1000) j a c1) ∧ R 1 (M 119 y) k' lt j2 c1 c
  | 2 => 1 ≤ i ∧ ((x = -1 ∧ a = c) ∨ ∃ (y c1 j j2 : Nat), x = (y : Int) ∧ C (T + 2) a = 26 ∧ C (T + 3) a = M 120 y ∧ (j + 1 ≤ i ∧ j2 ≤ i ∧ R 4 x 0 lt j (a + 1) c1) ∧ R 2 (M 119 y) 0 lt j2 c1 c)
  | 3 => (x = -1 ∧ a = c ∧ ∀ j : Nat, i ≤ j → (j : Int) < C (T + 1) 11 → C (T + 10) j ≠ (k : Int)) ∨
      ∃ (y i1 c1 : Nat), x = (y : Int) ∧ i ≤ i1 ∧ (i1 : Int) < C (T + 1) 11 ∧ C (T + 10) i1 = (k : Int) ∧ (∀ j : Nat, i ≤ j → j < i1 → C (T + 10) j ≠ (k : Int)) ∧ C (T + 7) i1 = M 116 y ∧ C (T + 8) i1 = M 117 y ∧ 0 ≤ M 117 y ∧ M 117 y < 12 ∧ C (T + 9) i1 = (a : Int) ∧
        R 2 (M 115 y) 0 (lt % 32000) (lt / 32000) a c1 ∧ C (T + 2) c1 = 37 ∧ C (T + 3) c1 = (k : Int) ∧ R 3 (M 119 y) k lt (i1 + 1) (c1 + 1) c
  | _ => ∃ y : Nat, x = (y : Int) ∧ (
      (M 114 y = 20 ∧ ∃ c1, ak_RX R (M 115 y) lt i a c1 ∧ C (T + 2) c1 = 27 ∧ C (T + 3) c1 = M 116 y ∧ 0 ≤ M 116 y ∧ M 116 y < 12 ∧ c = c1 + 1) ∨
      (M 114 y = 21 ∧ ∃ c1, ak_RX R (M 115 y) lt i a c1 ∧ C (T + 2) c1 = 27 ∧ C (T + 3) c1 = M 116 y * 16 + M 117 y ∧ 0 ≤ M 116 y ∧ M 116 y ≤ ((lt % 1000 / 40 : Nat) : Int) ∧ 0 ≤ M 117 y ∧ M 117 y < 12 ∧ c = c1 + 1) ∨
      (M 114 y = 22 ∧ ∃ c1, ak_RX R (M 115 y) lt i a c1 ∧ C (T + 2) c1 = 28 ∧ c = c1 + 1) ∨
      (M 114 y = 23 ∧ ∃ (c0 c1 : Nat), ak_RX2 R (M 115 y) (M 116 y) lt i a c0 c1 ∧ C (T + 2) c1 = 20 ∧ C (T + 3) c1 = M 117 y ∧ 0 ≤ M 117 y ∧ M 117 y < M 127 p ∧ c = c1 + 1) ∨
      (M 114 y = 24 ∧ ∃ (c0 c1 : Nat), ak_RX2 R (M 115 y) (M 116 y) lt i a c0 c1 ∧ C (T + 2) c1 = 21 ∧ C (T + 3) c1 = M 117 y ∧ 0 ≤ M 117 y ∧ M 117 y < 100 ∧ c = c1 + 1) ∨
      (M 114 y = 25 ∧ ∃ c1, ak_RX R (M 115 y) lt i a c1 ∧ C (T + 2) c1 = 22 ∧ C (T + 3) c1 = M 118 y * 128 + M 117 y ∧ 0 ≤ M 117 y ∧ M 117 y < 100 ∧ 0 ≤ M 118 y ∧ M 118 y ≤ ((lt % 1000 % 40 : Nat) : Int) ∧ c = c1 + 1) ∨
      (M 114 y = 26 ∧ ∃ c1, ak_RX R (M 115 y) lt i a c1 ∧ C (T + 2) c1 = 23 ∧ C (T + 3) c1 = M 117 y ∧ 0 ≤ M 117 y ∧ M 117 y < 100 ∧ c = c1 + 1) ∨
      ((M 114 y = 27 ∨ M 114 y = 28) ∧ ∃ (c0 c1 : Nat), ak_RX2 R (M 115 y) (M 116 y) lt i a c0 c1 ∧ C (T + 2) c1 = M 114 y - 3 ∧ c = c1 + 1) ∨
      (M 114 y = 29 ∧ ∃ (c1 c2 j j2 : Nat), ak_RX R (M 115 y) lt i a c1 ∧ C (T + 2) c1 = 31 ∧ (j ≤ i ∧ j2 ≤ i ∧ R 2 (M 116 y) 0 lt j (c1 + 1) c2) ∧
        ((M 117 y = -1 ∧ C (T + 3) c1 = (c2 : Int) ∧ c = c2) ∨ (C (T + 3) c1 = ((c2 + 1 : Nat) : Int) ∧ C (T + 2) c2 = 30 ∧ C (T + 3) c2 = (c : Int) ∧ R 2 (M 117 y) 0 lt j2 (c2 + 1) c))) ∨
      (M 114 y = 30 ∧ ∃ (c1 c2 j : Nat), ak_RX R (M 115 y) lt i a c1 ∧ C (T + 2) c1 = 31 ∧ C (T + 3) c1 = (c : Int) ∧ (j + 1 ≤ i ∧ R 2 (M 116 y) 0 lt j (c1 + 1) c2) ∧ C (T + 2) c2 = 30 ∧ C (T + 3) c2 + 1 = (a : Int) ∧ c = c2 + 1) ∨
      (M 114 y = 31 ∧ ∃ c1, ak_RX R (M 115 y) lt i a c1 ∧ C (T + 2) c1 = (if lt % 1000 / 40 = 0 then 33 else 32) ∧ c = c1 + 1) ∨
      (M 114 y = 32 ∧ ∃ c1, ak_RX R (M 115 y) lt i a c1 ∧ C (T + 2) c1 = 33 ∧ c = c1 + 1) ∨
      (M 114 y = 33 ∧ ∃ c1, ak_RX R (M 115 y) lt i a c1 ∧ C (T + 2) c1 = 29 ∧ c = c1 + 1) ∨
      (M 114 y = 34 ∧ 20 ≤ M 116 y ∧ M 116 y ≤ 99 ∧ ((M 115 y = -1 ∧ C (T + 2) a = 1 ∧ C (T + 2) (a + 1) = 35 ∧ C (T + 3) (a + 1) = M 116 y ∧ c = a + 2) ∨
        ∃ c1, ak_RX R (M 115 y) lt i a c1 ∧ C (T + 2) c1 = 35 ∧ C (T + 3) c1 = M 116 y ∧ c = c1 + 1)) ∨
      (M 114 y = 35 ∧ ∃ (c1 c2 g i0 j : Nat), C (T + 2) a = 36 ∧ C (T + 3) a = (g : Int) ∧ g < 500 ∧ (1000 ≤ lt ∧ j + 1 ≤ i ∧ R 2 (M 115 y) 0 (lt - 1000) j (a + 1) c1) ∧ C (T + 2) c1 = 37 ∧ C (T + 3) c1 = (g : Int) ∧ C (T + 4) g = (i0 : Int) ∧ R 3 (M 116 y) g (lt - 1000 + 32000 * j) i0 (c1 + 1) c2 ∧
        C (T + 6) g = (c : Int) ∧ ((M 118 y ≠ 1 ∧ C (T + 5) g = -1 ∧ c = c2) ∨ (M 118 y = 1 ∧ C (T + 5) g = (c2 : Int) ∧ ∃ c3, R 2 (M 117 y) 0 (lt - 1000) j c2 c3 ∧ C (T + 2) c3 = 38 ∧ C (T + 3) c3 = (g : Int) ∧ c = c3 + 1))))
theorem ak_Ph_mono {C M : Nat → Nat → Int} {T p : Nat} {R R' : ak_Rel} (hR : ∀ tag x k lt i a c, R tag x k lt i a c → R' tag x k lt i a c) {tag : Nat} {x : Int} {k lt i a c : Nat} (h : ak_Ph C M T p R tag x k lt i a c) : ak_Ph C M T p R' tag x k lt i a c := by
  unfold ak_Ph at h ⊢
  split at h
  · obtain ⟨y, hx, hb, h⟩ := h
    refine ⟨y, hx, hb, ?_⟩
    rcases h with h | h | h | h | h | ⟨h0, c1, j, ⟨hj, h1⟩, h2⟩ | h | ⟨h0, c1, n, j, H, h1, h2, h3, ⟨hj, hH, h4⟩, h5⟩ | ⟨h0, c0, c1, n, j, j2, H, ⟨hj, hH, h1⟩, h2, h3, h4, h5⟩ | ⟨h0, c0, c1, n, j, j2, H, ⟨hj, hH, h1⟩, h2, h3, h4, h5⟩ | ⟨h0, c0, c1, j, j2, H, ⟨hj, hH, h1⟩, h2, h3⟩ | ⟨h0, c1, j, ⟨hj, h1⟩, h2⟩ | ⟨h0, c1, l, j, G, h1, h2, h3, h4, h5, h6, h7, h8, ⟨hj, hG, h9⟩, h10⟩
    · exact Or.inl h
    · exact Or.inr (Or.inl h)
    · exact Or.inr (Or.inr (Or.inl h))
    · exact Or.inr (Or.inr (Or.inr (Or.inl h)))
    · exact Or.inr (Or.inr (Or.inr (Or.inr (Or.inl h))))
    · exact Or.inr (Or.inr (Or.inr (Or.inr (Or.inr (Or.inl ⟨h0, c1, j, ⟨hj, hR _ _ _ _ _ _ _ h1⟩, h2⟩)))))
    · exact Or.inr (Or.inr (Or.inr (Or.inr (Or.inr (Or.inr (Or.inl h))))))
    · exact Or.inr (Or.inr (Or.inr (Or.inr (Or.inr (Or.inr (Or.inr (Or.inl ⟨h0, c1, n, j, H, h1, h2, h3, ⟨hj, hH, hR _ _ _ _ _ _ _ h4⟩, h5⟩)))))))
    · exact Or.inr (Or.inr (Or.inr (Or.inr (Or.inr (Or.inr (Or.inr (Or.inr (Or.inl ⟨h0, c0, c1, n, j, j2, H, ⟨hj, hH, hR _ _ _ _ _ _ _ h1⟩, h2, h3, hR _ _ _ _ _ _ _ h4, h5⟩))))))))
    · exact Or.inr (Or.inr (Or.inr (Or.inr (Or.inr (Or.inr (Or.inr (Or.inr (Or.inr (Or.inl ⟨h0, c0, c1, n, j, j2, H, ⟨hj, hH, hR _ _ _ _ _ _ _ h1⟩, h2, h3, hR _ _ _ _ _ _ _ h4, h5⟩)))))))))
    · exact Or.inr (Or.inr (Or.inr (Or.inr (Or.inr (Or.inr (Or.inr (Or.inr (Or.inr (Or.inr (Or.inl ⟨h0, c0, c1, j, j2, H, ⟨hj, hH, hR _ _ _ _ _ _ _ h1⟩, hR _ _ _ _ _ _ _ h2, h3⟩))))))))))
    · exact Or.inr (Or.inr (Or.inr (Or.inr (Or.inr (Or.inr (Or.inr (Or.inr (Or.inr (Or.inr (Or.inr (Or.inl ⟨h0, c1, j, ⟨hj, hR _ _ _ _ _ _ _ h1⟩, h2⟩)))))))))))
    · exact Or.inr (Or.inr (Or.inr (Or.inr (Or.inr (Or.inr (Or.inr (Or.inr (Or.inr (Or.inr (Or.inr (Or.inr ⟨h0, c1, l, j, G, h1, h2, h3, h4, h5, h6, h7, h8, ⟨hj, hG, hR _ _ _ _ _ _ _ h9⟩, h10⟩)))))))))))
  · rcases h with h | ⟨y, k', c1, j, j2, h1, h2, ⟨hj, h3⟩, h4⟩
    · exact Or.inl h
    · exact Or.inr ⟨y, k', c1, j, j2, h1, h2, ⟨hj, hR _ _ _ _ _ _ _ h3⟩, hR _ _ _ _ _ _ _ h4⟩
  · obtain ⟨hi, h⟩ := h
    refine ⟨hi, ?_⟩
    rcases h with h | ⟨y, c1, j, j2, h1, h2, h3, ⟨hj, hj2, h4⟩, h5⟩
    · exact Or.inl h
    · exact Or.inr ⟨y, c1, j, j2, h1, h2, h3, ⟨hj, hj2, hR _ _ _ _ _ _ _ h4⟩, hR _ _ _ _ _ _ _ h5⟩
  · rcases h with h | ⟨y, i1, c1, h1, h2, h3, h4, h5, h6, h7, h8, h9, h10, h11, h12, h13, h14⟩
    · exact Or.inl h
    · exact Or.inr ⟨y, i1, c1, h1, h2, h3, h4, h5, h6, h7, h8, h9, h10, hR _ _ _ _ _ _ _ h11, h12, h13, hR _ _ _ _ _ _ _ h14⟩
  · have hX : ∀ (x : Int) (lt i a c : Nat), ak_RX R x lt i a c → ak_RX R' x lt i a c := fun x lt i a c w => by
      obtain ⟨j, H, w1, w2, w3⟩ := w
      exact ⟨j, H, w1, w2, hR _ _ _ _ _ _ _ w3⟩
    have hX2 : ∀ (x x2 : Int) (lt i a c0 c : Nat), ak_RX2 R x x2 lt i a c0 c → ak_RX2 R' x x2 lt i a c0 c := fun x x2 lt i a c0 c w => by
      obtain ⟨j, j2, H, H2, w1, w2, w3, w4, w5⟩ := w
      exact ⟨j, j2, H, H2, w1, w2, w3, hR _ _ _ _ _ _ _ w4, hR _ _ _ _ _ _ _ w5⟩
    obtain ⟨y, hx, h⟩ := h
    refine ⟨y, hx, ?_⟩
    rcases h with ⟨h0, c1, h1, h2⟩ | ⟨h0, c1, h1, h2⟩ | ⟨h0, c1, h1, h2⟩ | ⟨h0, c0, c1, h1, h3⟩ | ⟨h0, c0, c1, h1, h3⟩ | ⟨h0, c1, h1, h2⟩ | ⟨h0, c1, h1, h2⟩ | ⟨h0, c0, c1, h1, h3⟩ | ⟨h0, c1, c2, j, j2, h1, h2, ⟨hj, hj2, h3⟩, h4⟩ | ⟨h0, c1, c2, j, h1, h2, h3, ⟨hj, h4⟩, h5⟩ | ⟨h0, c1, h1, h2⟩ | ⟨h0, c1, h1, h2⟩ | ⟨h0, c1, h1, h2⟩ | ⟨h0, h1, h2, h3⟩ | ⟨h0, c1, c2, g, i0, j, h1, h2, h3, ⟨hl, hj, h4⟩, h5, h6, h7, h8, h9, h10⟩
    · exact Or.inl ⟨h0, c1, hX _ _ _ _ _ h1, h2⟩
    · exact Or.inr (Or.inl ⟨h0, c1, hX _ _ _ _ _ h1, h2⟩)
    · exact Or.inr (Or.inr (Or.inl ⟨h0, c1, hX _ _ _ _ _ h1, h2⟩))
    · exact Or.inr (Or.inr (Or.inr (Or.inl ⟨h0, c0, c1, hX2 _ _ _ _ _ _ _ h1, h3⟩)))
    · exact Or.inr (Or.inr (Or.inr (Or.inr (Or.inl ⟨h0, c0, c1, hX2 _ _ _ _ _ _ _ h1, h3⟩))))
    · exact Or.inr (Or.inr (Or.inr (Or.inr (Or.inr (Or.inl ⟨h0, c1, hX _ _ _ _ _ h1, h2⟩)))))
    · exact Or.inr (Or.inr (Or.inr (Or.inr (Or.inr (Or.inr (Or.inl ⟨h0, c1, hX _ _ _ _ _ h1, h2⟩))))))
    · exact Or.inr (Or.inr (Or.inr (Or.inr (Or.inr (Or.inr (Or.inr (Or.inl ⟨h0, c0, c1, hX2 _ _ _ _ _ _ _ h1, h3⟩)))))))
    · refine Or.inr (Or.inr (Or.inr (Or.inr (Or.inr (Or.inr (Or.inr (Or.inr (Or.inl ⟨h0, c1, c2, j, j2, hX _ _ _ _ _ h1, h2, ⟨hj, hj2, hR _ _ _ _ _ _ _ h3⟩, ?_⟩))))))))
      rcases h4 with h4 | ⟨h4, h5, h6, h7⟩
      · exact Or.inl h4
      · exact Or.inr ⟨h4, h5, h6, hR _ _ _ _ _ _ _ h7⟩
    · exact Or.inr (Or.inr (Or.inr (Or.inr (Or.inr (Or.inr (Or.inr (Or.inr (Or.inr (Or.inl ⟨h0, c1, c2, j, hX _ _ _ _ _ h1, h2, h3, ⟨hj, hR _ _ _ _ _ _ _ h4⟩, h5⟩)))))))))
    · exact Or.inr (Or.inr (Or.inr (Or.inr (Or.inr (Or.inr (Or.inr (Or.inr (Or.inr (Or.inr (Or.inl ⟨h0, c1, hX _ _ _ _ _ h1, h2⟩))))))))))
    · exact Or.inr (Or.inr (Or.inr (Or.inr (Or.inr (Or.inr (Or.inr (Or.inr (Or.inr (Or.inr (Or.inr (Or.inl ⟨h0, c1, hX _ _ _ _ _ h1, h2⟩)))))))))))
    · exact Or.inr (Or.inr (Or.inr (Or.inr (Or.inr (Or.inr (Or.inr (Or.inr (Or.inr (Or.inr (Or.inr (Or.inr (Or.inl ⟨h0, c1, hX _ _ _ _ _ h1, h2⟩))))))))))))
    · refine Or.inr (Or.inr (Or.inr (Or.inr (Or.inr (Or.inr (Or.inr (Or.inr (Or.inr (Or.inr (Or.inr (Or.inr (Or.inr (Or.inl ⟨h0, h1, h2, ?_⟩)))))))))))))
      rcases h3 with h3 | ⟨c1, h3, h4⟩
      · exact Or.inl h3
      · exact Or.inr ⟨c1, hX _ _ _ _ _ h3, h4⟩
    · refine Or.inr (Or.inr (Or.inr (Or.inr (Or.inr (Or.inr (Or.inr (Or.inr (Or.inr (Or.inr (Or.inr (Or.inr (Or.inr (Or.inr ⟨h0, c1, c2, g, i0, j, h1, h2, h3, ⟨hl, hj, hR _ _ _ _ _ _ _ h4⟩, h5, h6, h7, hR _ _ _ _ _ _ _ h8, h9, ?_⟩)))))))))))))
      rcases h10 with h10 | ⟨h10, h11, c3, h12, h13⟩
      · exact Or.inl h10
      · exact Or.inr ⟨h10, h11, c3, hR _ _ _ _ _ _ _ h12, h13⟩
/-- the least such relation -/
def ak_T3 (C M : Nat → Nat → Int) (T p : Nat) : ak_Rel := fun tag x k lt i a c => ∀ R : ak_Rel, (∀ tag x k lt i a c, ak_Ph C M T p R tag x k lt i a c → R tag x k lt i a c) → R tag x k lt i a c
theorem ak_T3_fold {C M : Nat → Nat → Int} {T p : Nat} {tag : Nat} {x : Int} {k lt i a c : Nat} (h : ak_Ph C M T p (ak_T3 C M T p) tag x k lt i a c) : ak_T3 C M T p tag x k lt i a c :=
  fun R hR => hR _ _ _ _ _ _ _ (ak_Ph_mono (fun _ _ _ _ _ _ _ w => w R hR) h)
theorem ak_T3_open {C M : Nat → Nat → Int} {T p : Nat} {tag : Nat} {x : Int} {k lt i a c : Nat} (h : ak_T3 C M T p tag x k lt i a c) : ak_Ph C M T p (ak_T3 C M T p) tag x k lt i a c :=
  h (ak_Ph C M T p (ak_T3 C M T p)) (fun _ _ _ _ _ _ _ w => ak_Ph_mono (fun _ _ _ _ _ _ _ v => ak_T3_fold v) w)
/-- what the one's orders are, with room to spare: an expression, statements, a statement -/
def ak_X0 (C M : Nat → Nat → Int) (T p H J : Nat) (x : Int) (lt a c : Nat) : Prop := ∀ k i : Nat, H ≤ k → J ≤ i → ak_T3 C M T p 0 x k lt i a c
def ak_X2 (C M : Nat → Nat → Int) (T p o J : Nat) (x : Int) (lt a c : Nat) : Prop := ∀ G i : Nat, 21 ≤ G + o → G ≤ 21 → J + 22 ≤ i + o → ak_T3 C M T p 2 x 0 (lt + 1000 * G) i a c
def ak_X4 (C M : Nat → Nat → Int) (T p o J : Nat) (x : Int) (lt a c : Nat) : Prop := ∀ G i : Nat, 21 ≤ G + o → G ≤ 21 → J + 21 ≤ i + o → ak_T3 C M T p 4 x 0 (lt + 1000 * G) i a c
theorem ak_RX_mk {C M : Nat → Nat → Int} {T p H J : Nat} {x : Int} {lt G i a c : Nat} (t : ak_X0 C M T p H J x lt a c) (hl : lt < 1000) (hH : H ≤ 150) (hJ : J + 1 ≤ i) : ak_RX (ak_T3 C M T p) x (lt + 1000 * G) i a c := by
  refine ⟨J, H, hH, hJ, ?_⟩
  rw [show (lt + 1000 * G) % 1000 = lt by omega]
  exact t H J (Nat.le_refl _) (Nat.le_refl _)
theorem ak_RX2_mk {C M : Nat → Nat → Int} {T p H J H2 J2 : Nat} {x x2 : Int} {lt G i a c0 c : Nat} (t : ak_X0 C M T p H J x lt a c0) (t2 : ak_X0 C M T p H2 J2 x2 lt c0 c) (hl : lt < 1000) (hH : H ≤ 150) (hH2 : H2 ≤ 150) (hJ : J + J2 + 1 ≤ i) : ak_RX2 (ak_T3 C M T p) x x2 (lt + 1000 * G) i a c0 c := by
  refine ⟨J, J2, H, H2, hH, hH2, hJ, ?_, ?_⟩
  · rw [show (lt + 1000 * G) % 1000 = lt by omega]
    exact t H J (Nat.le_refl _) (Nat.le_refl _)
  · rw [show (lt + 1000 * G) % 1000 = lt by omega]
    exact t2 H2 J2 (Nat.le_refl _) (Nat.le_refl _)
