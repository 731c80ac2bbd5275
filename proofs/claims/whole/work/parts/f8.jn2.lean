/-! the run: what is told stays alike: a beginning, a step -/
section JNB
variable {n x : Nat} {hc hm hm' hc' : ak_S} {s w p : Int}
theorem ak_jn_b (J : ak_jn hc hm) (hx : x < 40) (hn : hm.1 110 111 = (n : Int)) (hn2 : n + 1 < 2000000000) (g1 : hm'.1 110 111 = ((n + 1 : Nat) : Int)) (g2 : n < 300 → hm'.1 189 n = (x : Int) ∧ hm'.1 190 n = s ∧ hm'.2.1 191 n = w ∧ hm'.1 192 n = p) (g3 : hm'.1 186 x = am_w32 (hm.1 186 x + 1))
    (F : ∀ q k, (q = 110 ∧ (k = 104 ∨ (106 ≤ k ∧ k ≤ 110))) ∨ (186 ≤ q ∧ q ≤ 198) → ¬ ((189 ≤ q ∧ q ≤ 192) ∧ k = n) → ¬ (q = 186 ∧ k = x) → hm'.1 q k = hm.1 q k ∧ hm'.2.1 q k = hm.2.1 q k) : ak_jn (ak_nbg hc n x s w p) hm' := by
  obtain ⟨⟨j0, j1, j2, j3, j4, j5, j6⟩, ⟨b1, b2, b3, b4⟩, r1, r2, r3, r4⟩ := J
  have f : ∀ q k, (q = 110 ∧ (k = 104 ∨ (106 ≤ k ∧ k ≤ 110))) ∨ (186 ≤ q ∧ q ≤ 198) → ¬ ((189 ≤ q ∧ q ≤ 192) ∧ k = n) → ¬ (q = 186 ∧ k = x) → hm'.1 q k = hm.1 q k := fun q k a b c => (F q k a b c).1
  have C : ∀ q i, ¬ (q = 64 ∧ i = 6) → ¬ (q = 66 ∧ 4 * n ≤ i ∧ i < 4 * n + 4) → (ak_nbg hc n x s w p).2.1 q i = hc.2.1 q i := fun q i a b => by
    unfold ak_nbg
    dsimp only
    rw [ak_up_out a]
    split
    · rw [ak_up_out (by omega), ak_up_out (by omega), ak_up_out (by omega), ak_up_out (by omega)]
    · rfl
  have C6 : (ak_nbg hc n x s w p).2.1 64 6 = ((n + 1 : Nat) : Int) := by
    unfold ak_nbg
    dsimp only
    exact ak_up_at
  have C66 : n < 300 → (ak_nbg hc n x s w p).2.1 66 (4 * n) = (x : Int) ∧ (ak_nbg hc n x s w p).2.1 66 (4 * n + 1) = s ∧ (ak_nbg hc n x s w p).2.1 66 (4 * n + 2) = w ∧ (ak_nbg hc n x s w p).2.1 66 (4 * n + 3) = p := fun g => by
    unfold ak_nbg
    dsimp only
    rw [if_pos g]
    simp [am_up]
  have C1 : ∀ i, (ak_nbg hc n x s w p).1 68 i = if i = x then am_w32 (hc.1 68 x + 1) else hc.1 68 i := fun i => by
    show am_up hc.1 68 x (am_w32 (hc.1 68 x + 1)) 68 i = _
    by_cases g : i = x
    · rw [if_pos g, g]; exact ak_up_at
    · rw [if_neg g]; exact ak_up_out (by omega)
  generalize ak_nbg hc n x s w p = hc' at C C6 C66 C1
  refine ⟨⟨?_, ?_, ?_, ?_, ?_, ?_, C6.trans g1.symm⟩, ⟨?_, ?_, ?_, ?_⟩, fun i hi hl => ?_, fun i hi hl => ?_, fun i hi hl => ?_, fun i hi => ?_⟩
  · rw [C 64 0 (by omega) (by omega), f 110 106 (by omega) (by omega) (by omega)]; exact j0
  · rw [C 64 1 (by omega) (by omega), (F 110 107 (by omega) (by omega) (by omega)).2]; exact j1
  · rw [C 64 2 (by omega) (by omega), f 110 104 (by omega) (by omega) (by omega)]; exact j2
  · rw [C 64 3 (by omega) (by omega), f 110 108 (by omega) (by omega) (by omega)]; exact j3
  · rw [C 64 4 (by omega) (by omega), f 110 109 (by omega) (by omega) (by omega)]; exact j4
  · rw [C 64 5 (by omega) (by omega), f 110 110 (by omega) (by omega) (by omega)]; exact j5
  · rw [f 110 104 (by omega) (by omega) (by omega)]; exact b1
  · rw [f 110 109 (by omega) (by omega) (by omega)]; exact b2
  · rw [f 110 110 (by omega) (by omega) (by omega)]; exact b3
  · rw [g1]; omega
  · rw [f 110 110 (by omega) (by omega) (by omega)] at hl
    rw [C 65 _ (by omega) (by omega), C 65 _ (by omega) (by omega), f 187 i (by omega) (by omega) (by omega), (F 188 i (by omega) (by omega) (by omega)).2]
    exact r1 i hi hl
  · rw [g1] at hl
    by_cases hin : i = n
    · subst hin
      obtain ⟨x0, x1, x2, x3⟩ := C66 hi
      obtain ⟨y0, y1, y2, y3⟩ := g2 hi
      exact ⟨x0.trans y0.symm, x1.trans y1.symm, x2.trans y2.symm, x3.trans y3.symm⟩
    · rw [C 66 _ (by omega) (by omega), C 66 _ (by omega) (by omega), C 66 _ (by omega) (by omega), C 66 _ (by omega) (by omega), f 189 i (by omega) (by omega) (by omega), f 190 i (by omega) (by omega) (by omega), (F 191 i (by omega) (by omega) (by omega)).2, f 192 i (by omega) (by omega) (by omega)]
      exact r2 i hi (by omega)
  · rw [f 110 109 (by omega) (by omega) (by omega)] at hl
    rw [C 67 _ (by omega) (by omega), C 67 _ (by omega) (by omega), C 67 _ (by omega) (by omega), C 67 _ (by omega) (by omega), C 67 _ (by omega) (by omega), C 67 _ (by omega) (by omega), f 193 i (by omega) (by omega) (by omega), f 194 i (by omega) (by omega) (by omega), (F 195 i (by omega) (by omega) (by omega)).2, f 196 i (by omega) (by omega) (by omega), f 197 i (by omega) (by omega) (by omega), f 198 i (by omega) (by omega) (by omega)]
    exact r3 i hi hl
  · rw [C1]
    by_cases g : i = x
    · subst g
      rw [if_pos rfl, g3, r4 i hi]
    · rw [if_neg g, f 186 i (by omega) (by omega) (by omega)]; exact r4 i hi
/-- a step taken on both sides -/
theorem ak_jn_s (J : ak_jn hc hm) (hn2 : n < 4000) (c1 : hc'.2.1 64 2 = ((n + 1 : Nat) : Int)) (g1 : hm'.1 110 104 = ((n + 1 : Nat) : Int)) (C : ∀ q k, 64 ≤ q → q ≤ 68 → ¬ (q = 64 ∧ k = 2) → hc'.1 q k = hc.1 q k ∧ hc'.2.1 q k = hc.2.1 q k)
    (F : ∀ q k, (q = 110 ∧ (106 ≤ k ∧ k ≤ 111)) ∨ (186 ≤ q ∧ q ≤ 198) → hm'.1 q k = hm.1 q k ∧ hm'.2.1 q k = hm.2.1 q k) : ak_jn hc' hm' := by
  obtain ⟨⟨j0, j1, j2, j3, j4, j5, j6⟩, ⟨b1, b2, b3, b4⟩, r1, r2, r3, r4⟩ := J
  have f : ∀ q k, (q = 110 ∧ (106 ≤ k ∧ k ≤ 111)) ∨ (186 ≤ q ∧ q ≤ 198) → hm'.1 q k = hm.1 q k := fun q k a => (F q k a).1
  have c : ∀ q k, 64 ≤ q → q ≤ 68 → ¬ (q = 64 ∧ k = 2) → hc'.2.1 q k = hc.2.1 q k := fun q k a b d => (C q k a b d).2
  refine ⟨⟨?_, ?_, c1.trans g1.symm, ?_, ?_, ?_, ?_⟩, ⟨?_, ?_, ?_, ?_⟩, fun i hi hl => ?_, fun i hi hl => ?_, fun i hi hl => ?_, fun i hi => ?_⟩
  · rw [c 64 0 (by omega) (by omega) (by omega), f 110 106 (by omega)]; exact j0
  · rw [c 64 1 (by omega) (by omega) (by omega), (F 110 107 (by omega)).2]; exact j1
  · rw [c 64 3 (by omega) (by omega) (by omega), f 110 108 (by omega)]; exact j3
  · rw [c 64 4 (by omega) (by omega) (by omega), f 110 109 (by omega)]; exact j4
  · rw [c 64 5 (by omega) (by omega) (by omega), f 110 110 (by omega)]; exact j5
  · rw [c 64 6 (by omega) (by omega) (by omega), f 110 111 (by omega)]; exact j6
  · rw [g1]; omega
  · rw [f 110 109 (by omega)]; exact b2
  · rw [f 110 110 (by omega)]; exact b3
  · rw [f 110 111 (by omega)]; exact b4
  · rw [f 110 110 (by omega)] at hl
    rw [c 65 _ (by omega) (by omega) (by omega), c 65 _ (by omega) (by omega) (by omega), f 187 i (by omega), (F 188 i (by omega)).2]
    exact r1 i hi hl
  · rw [f 110 111 (by omega)] at hl
    rw [c 66 _ (by omega) (by omega) (by omega), c 66 _ (by omega) (by omega) (by omega), c 66 _ (by omega) (by omega) (by omega), c 66 _ (by omega) (by omega) (by omega), f 189 i (by omega), f 190 i (by omega), (F 191 i (by omega)).2, f 192 i (by omega)]
    exact r2 i hi hl
  · rw [f 110 109 (by omega)] at hl
    rw [c 67 _ (by omega) (by omega) (by omega), c 67 _ (by omega) (by omega) (by omega), c 67 _ (by omega) (by omega) (by omega), c 67 _ (by omega) (by omega) (by omega), c 67 _ (by omega) (by omega) (by omega), c 67 _ (by omega) (by omega) (by omega), f 193 i (by omega), f 194 i (by omega), (F 195 i (by omega)).2, f 196 i (by omega), f 197 i (by omega), f 198 i (by omega)]
    exact r3 i hi hl
  · rw [(C 68 i (by omega) (by omega) (by omega)).1, f 186 i (by omega)]; exact r4 i hi
end JNB
