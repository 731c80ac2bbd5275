/-! the run: what is told stays alike -/
section JNK
variable {e : ak_X3} {d n m t ρ1 ρ2 u : Nat} {ρ : List Nat} {h hc hm hm' : ak_S} {Q : ak_S → Prop} {X : Nat → ak_S → Prop} {s w p c k mt : Int}
theorem ak_jn_w (J : ak_jn hc hm) (hn : hm.1 110 110 = (n : Int)) (hn2 : n + 1 < 2000000000) (g1 : hm'.1 110 110 = ((n + 1 : Nat) : Int)) (g2 : n < 300 → hm'.1 187 n = s ∧ hm'.2.1 188 n = w)
    (F : ∀ q k, (q = 110 ∧ (k = 104 ∨ (106 ≤ k ∧ k ≤ 109) ∨ k = 111)) ∨ (186 ≤ q ∧ q ≤ 198) → ¬ ((q = 187 ∨ q = 188) ∧ k = n) → hm'.1 q k = hm.1 q k ∧ hm'.2.1 q k = hm.2.1 q k) : ak_jn (ak_nwr hc n s w) hm' := by
  obtain ⟨⟨j0, j1, j2, j3, j4, j5, j6⟩, ⟨b1, b2, b3, b4⟩, r1, r2, r3, r4⟩ := J
  have f : ∀ q k, (q = 110 ∧ (k = 104 ∨ (106 ≤ k ∧ k ≤ 109) ∨ k = 111)) ∨ (186 ≤ q ∧ q ≤ 198) → ¬ ((q = 187 ∨ q = 188) ∧ k = n) → hm'.1 q k = hm.1 q k := fun q k a b => (F q k a b).1
  have C : ∀ q k, ¬ (q = 64 ∧ k = 5) → ¬ (q = 65 ∧ (k = 2 * n ∨ k = 2 * n + 1)) → (ak_nwr hc n s w).2.1 q k = hc.2.1 q k := fun q k a b => by
    unfold ak_nwr
    dsimp only
    rw [ak_up_out a]
    split
    · rw [ak_up_out (by omega), ak_up_out (by omega)]
    · rfl
  have C5 : (ak_nwr hc n s w).2.1 64 5 = ((n + 1 : Nat) : Int) := by
    unfold ak_nwr
    dsimp only
    exact ak_up_at
  have C65 : n < 300 → (ak_nwr hc n s w).2.1 65 (2 * n) = s ∧ (ak_nwr hc n s w).2.1 65 (2 * n + 1) = w := fun g => by
    unfold ak_nwr
    dsimp only
    rw [if_pos g]
    simp [am_up]
  have C1 : (ak_nwr hc n s w).1 = hc.1 := rfl
  generalize ak_nwr hc n s w = hc' at C C5 C65 C1
  refine ⟨⟨?_, ?_, ?_, ?_, ?_, C5.trans g1.symm, ?_⟩, ⟨?_, ?_, ?_, ?_⟩, fun i hi hl => ?_, fun i hi hl => ?_, fun i hi hl => ?_, fun i hi => ?_⟩
  · rw [C 64 0 (by omega) (by omega), f 110 106 (by omega) (by omega)]; exact j0
  · rw [C 64 1 (by omega) (by omega), (F 110 107 (by omega) (by omega)).2]; exact j1
  · rw [C 64 2 (by omega) (by omega), f 110 104 (by omega) (by omega)]; exact j2
  · rw [C 64 3 (by omega) (by omega), f 110 108 (by omega) (by omega)]; exact j3
  · rw [C 64 4 (by omega) (by omega), f 110 109 (by omega) (by omega)]; exact j4
  · rw [C 64 6 (by omega) (by omega), f 110 111 (by omega) (by omega)]; exact j6
  · rw [f 110 104 (by omega) (by omega)]; exact b1
  · rw [f 110 109 (by omega) (by omega)]; exact b2
  · rw [g1]; omega
  · rw [f 110 111 (by omega) (by omega)]; exact b4
  · rw [g1] at hl
    by_cases hin : i = n
    · subst hin
      rw [(C65 hi).1, (C65 hi).2, (g2 hi).1, (g2 hi).2]
      exact ⟨rfl, rfl⟩
    · rw [C 65 _ (by omega) (by omega), C 65 _ (by omega) (by omega), f 187 i (by omega) (by omega), (F 188 i (by omega) (by omega)).2]
      exact r1 i hi (by omega)
  · rw [f 110 111 (by omega) (by omega)] at hl
    rw [C 66 _ (by omega) (by omega), C 66 _ (by omega) (by omega), C 66 _ (by omega) (by omega), C 66 _ (by omega) (by omega), f 189 i (by omega) (by omega), f 190 i (by omega) (by omega), (F 191 i (by omega) (by omega)).2, f 192 i (by omega) (by omega)]
    exact r2 i hi hl
  · rw [f 110 109 (by omega) (by omega)] at hl
    rw [C 67 _ (by omega) (by omega), C 67 _ (by omega) (by omega), C 67 _ (by omega) (by omega), C 67 _ (by omega) (by omega), C 67 _ (by omega) (by omega), C 67 _ (by omega) (by omega), f 193 i (by omega) (by omega), f 194 i (by omega) (by omega), (F 195 i (by omega) (by omega)).2, f 196 i (by omega) (by omega), f 197 i (by omega) (by omega), f 198 i (by omega) (by omega)]
    exact r3 i hi hl
  · rw [C1, f 186 i (by omega) (by omega)]; exact r4 i hi
theorem ak_jn_f (J : ak_jn hc hm) (hn : hm.1 110 109 = (n : Int)) (hn2 : n + 1 < 2000000000) (g1 : hm'.1 110 109 = ((n + 1 : Nat) : Int)) (g2 : n < 64 → hm'.1 193 n = k ∧ hm'.1 194 n = s ∧ hm'.2.1 195 n = w ∧ hm'.1 196 n = mt ∧ hm'.1 197 n = p ∧ hm'.1 198 n = c)
    (F : ∀ q k, (q = 110 ∧ (k = 104 ∨ (106 ≤ k ∧ k ≤ 108) ∨ k = 110 ∨ k = 111)) ∨ (186 ≤ q ∧ q ≤ 198) → ¬ ((193 ≤ q ∧ q ≤ 198) ∧ k = n) → hm'.1 q k = hm.1 q k ∧ hm'.2.1 q k = hm.2.1 q k) : ak_jn (ak_nfl hc n k s w mt p c) hm' := by
  obtain ⟨⟨j0, j1, j2, j3, j4, j5, j6⟩, ⟨b1, b2, b3, b4⟩, r1, r2, r3, r4⟩ := J
  have f : ∀ q k, (q = 110 ∧ (k = 104 ∨ (106 ≤ k ∧ k ≤ 108) ∨ k = 110 ∨ k = 111)) ∨ (186 ≤ q ∧ q ≤ 198) → ¬ ((193 ≤ q ∧ q ≤ 198) ∧ k = n) → hm'.1 q k = hm.1 q k := fun q k a b => (F q k a b).1
  have C : ∀ q i, ¬ (q = 64 ∧ i = 4) → ¬ (q = 67 ∧ 6 * n ≤ i ∧ i < 6 * n + 6) → (ak_nfl hc n k s w mt p c).2.1 q i = hc.2.1 q i := fun q i a b => by
    unfold ak_nfl
    dsimp only
    rw [ak_up_out a]
    split
    · rw [ak_up_out (by omega), ak_up_out (by omega), ak_up_out (by omega), ak_up_out (by omega), ak_up_out (by omega), ak_up_out (by omega)]
    · rfl
  have C4 : (ak_nfl hc n k s w mt p c).2.1 64 4 = ((n + 1 : Nat) : Int) := by
    unfold ak_nfl
    dsimp only
    exact ak_up_at
  have C67 : n < 64 → (ak_nfl hc n k s w mt p c).2.1 67 (6 * n) = k ∧ (ak_nfl hc n k s w mt p c).2.1 67 (6 * n + 1) = s ∧ (ak_nfl hc n k s w mt p c).2.1 67 (6 * n + 2) = w ∧ (ak_nfl hc n k s w mt p c).2.1 67 (6 * n + 3) = mt ∧ (ak_nfl hc n k s w mt p c).2.1 67 (6 * n + 4) = p ∧ (ak_nfl hc n k s w mt p c).2.1 67 (6 * n + 5) = c := fun g => by
    unfold ak_nfl
    dsimp only
    rw [if_pos g]
    simp [am_up]
  have C1 : (ak_nfl hc n k s w mt p c).1 = hc.1 := rfl
  generalize ak_nfl hc n k s w mt p c = hc' at C C4 C67 C1
  refine ⟨⟨?_, ?_, ?_, ?_, C4.trans g1.symm, ?_, ?_⟩, ⟨?_, ?_, ?_, ?_⟩, fun i hi hl => ?_, fun i hi hl => ?_, fun i hi hl => ?_, fun i hi => ?_⟩
  · rw [C 64 0 (by omega) (by omega), f 110 106 (by omega) (by omega)]; exact j0
  · rw [C 64 1 (by omega) (by omega), (F 110 107 (by omega) (by omega)).2]; exact j1
  · rw [C 64 2 (by omega) (by omega), f 110 104 (by omega) (by omega)]; exact j2
  · rw [C 64 3 (by omega) (by omega), f 110 108 (by omega) (by omega)]; exact j3
  · rw [C 64 5 (by omega) (by omega), f 110 110 (by omega) (by omega)]; exact j5
  · rw [C 64 6 (by omega) (by omega), f 110 111 (by omega) (by omega)]; exact j6
  · rw [f 110 104 (by omega) (by omega)]; exact b1
  · rw [g1]; omega
  · rw [f 110 110 (by omega) (by omega)]; exact b3
  · rw [f 110 111 (by omega) (by omega)]; exact b4
  · rw [f 110 110 (by omega) (by omega)] at hl
    rw [C 65 _ (by omega) (by omega), C 65 _ (by omega) (by omega), f 187 i (by omega) (by omega), (F 188 i (by omega) (by omega)).2]
    exact r1 i hi hl
  · rw [f 110 111 (by omega) (by omega)] at hl
    rw [C 66 _ (by omega) (by omega), C 66 _ (by omega) (by omega), C 66 _ (by omega) (by omega), C 66 _ (by omega) (by omega), f 189 i (by omega) (by omega), f 190 i (by omega) (by omega), (F 191 i (by omega) (by omega)).2, f 192 i (by omega) (by omega)]
    exact r2 i hi hl
  · rw [g1] at hl
    by_cases hin : i = n
    · subst hin
      obtain ⟨x0, x1, x2, x3, x4, x5⟩ := C67 hi
      obtain ⟨y0, y1, y2, y3, y4, y5⟩ := g2 hi
      exact ⟨x0.trans y0.symm, x1.trans y1.symm, x2.trans y2.symm, x3.trans y3.symm, x4.trans y4.symm, x5.trans y5.symm⟩
    · rw [C 67 _ (by omega) (by omega), C 67 _ (by omega) (by omega), C 67 _ (by omega) (by omega), C 67 _ (by omega) (by omega), C 67 _ (by omega) (by omega), C 67 _ (by omega) (by omega), f 193 i (by omega) (by omega), f 194 i (by omega) (by omega), (F 195 i (by omega) (by omega)).2, f 196 i (by omega) (by omega), f 197 i (by omega) (by omega), f 198 i (by omega) (by omega)]
      exact r3 i hi (by omega)
  · rw [C1, f 186 i (by omega) (by omega)]; exact r4 i hi
/-- the one fails -/
def ak_flC (h : ak_S) (n m t : Nat) (k s w : Int) : ak_S := ak_goS (ak_nfl h n k s w (h.1 71 t) (h.1 73 t) (ak_lst (h.1 78) (h.1 81) 1 m)) 1 k s w (n : Int)
theorem am_s77 (hu : u = 0 ∨ u = 1) (ht : h.1 32 12 = (t : Int)) (ht2 : t < 60) (hm : h.1 77 4 = (m : Int)) (hm2 : m ≤ 1260) (hn : h.2.1 64 4 = (n : Int)) (hn2 : n < 2000000000) (q : Q (ak_flC h n m t k s w)) : ak_MV e 0 (d + 2) [ak_T u, ρ1, ρ2, ak_T u, ak_T u + 1] 77 [am_r 32, am_i k, am_i s, am_l w] h Q X := by
  refine ak_MV_of (Nat.le_of_ble_eq_true rfl) (am_k77_0 hu ?_)
  rw [ht, ak_natn]
  exact ⟨by omega, by omega, am_s57 hm hm2 (am_s67 hn hn2 (am_s54 q))⟩
end JNK
