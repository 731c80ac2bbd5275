/-! the run: two numbers -/
/-- what two values come to: k 0 and the number v, or the failure k -/
def ak_rs2 (o : Nat) (s w t z k v : Int) : Prop :=
  (o = 16 ∧ k = 0 ∧ ((s = t ∧ w = z ∧ v = 1) ∨ (¬ (s = t ∧ w = z) ∧ v = 0))) ∨ (o ≠ 16 ∧ ¬ (s = 1 ∧ t = 1) ∧ k = 3) ∨
  (s = 1 ∧ t = 1 ∧ (
    (o = 9 ∧ (((¬ ((w < 0) ↔ (z < 0)) ∨ ((am_w64 (w + z) < 0) ↔ (w < 0))) ∧ k = 0 ∧ v = am_w64 (w + z)) ∨ (¬ (¬ ((w < 0) ↔ (z < 0)) ∨ ((am_w64 (w + z) < 0) ↔ (w < 0))) ∧ k = 4))) ∨
    (o = 10 ∧ (((((w < 0) ↔ (z < 0)) ∨ ((am_w64 (w - z) < 0) ↔ (w < 0))) ∧ k = 0 ∧ v = am_w64 (w - z)) ∨ (¬ (((w < 0) ↔ (z < 0)) ∨ ((am_w64 (w - z) < 0) ↔ (w < 0))) ∧ k = 4))) ∨
    (o = 11 ∧ (((-9223372036854775808 ≤ w * z ∧ w * z < 9223372036854775808) ∧ k = 0 ∧ v = am_w64 (w * z)) ∨ (¬ (-9223372036854775808 ≤ w * z ∧ w * z < 9223372036854775808) ∧ k = 4))) ∨
    (o = 12 ∧ ((z = 0 ∧ k = 5) ∨ (z = -1 ∧ w = -9223372036854775808 ∧ k = 4) ∨ (z = -1 ∧ w ≠ -9223372036854775808 ∧ k = 0 ∧ v = am_w64 (-w)) ∨ (z ≠ 0 ∧ z ≠ -1 ∧ k = 0 ∧ v = am_w64 (Int.tdiv w z)))) ∨
    (o = 13 ∧ ((z = 0 ∧ k = 5) ∨ (z = -1 ∧ k = 0 ∧ v = 0) ∨ (z ≠ 0 ∧ z ≠ -1 ∧ k = 0 ∧ v = Int.tmod w z))) ∨
    (o = 14 ∧ k = 0 ∧ ((w < z ∧ v = 1) ∨ (¬ w < z ∧ v = 0))) ∨ (o = 15 ∧ k = 0 ∧ ((z < w ∧ v = 1) ∨ (¬ z < w ∧ v = 0)))))
section TWO
variable {e : ak_X3} {d ρ1 ρ2 n o u : Nat} {ρ : List Nat} {h hX S : ak_S} {s w t z k v op x : Int} {Q : ak_S → Prop} {X : Nat → ak_S → Prop}
theorem ak_tmod_in (hw : -9223372036854775808 ≤ w ∧ w < 9223372036854775808) (hz : -9223372036854775808 ≤ z ∧ z < 9223372036854775808) (h0 : z ≠ 0) : -9223372036854775808 ≤ Int.tmod w z ∧ Int.tmod w z < 9223372036854775808 := by
  have hr : (Int.tmod w z).natAbs < z.natAbs := by rw [Int.natAbs_tmod]; exact Nat.mod_lt _ (by omega)
  omega
theorem ak_rs2_tot (ho : 9 ≤ o ∧ o ≤ 16) (hw : -9223372036854775808 ≤ w ∧ w < 9223372036854775808) (hz : -9223372036854775808 ≤ z ∧ z < 9223372036854775808) : ∃ k v, ak_rs2 o s w t z k v ∧ (-9223372036854775808 ≤ v ∧ v < 9223372036854775808) ∧ (k = 0 ∨ k = 3 ∨ k = 4 ∨ k = 5) := by
  unfold ak_rs2
  by_cases h16 : o = 16
  · by_cases hh : s = t ∧ w = z
    · exact ⟨0, 1, Or.inl ⟨h16, rfl, Or.inl ⟨hh.1, hh.2, rfl⟩⟩, by decide, by decide⟩
    · exact ⟨0, 0, Or.inl ⟨h16, rfl, Or.inr ⟨hh, rfl⟩⟩, by decide, by decide⟩
  by_cases hst : s = 1 ∧ t = 1
  · obtain ⟨h1, h2⟩ := hst
    have hc : o = 9 ∨ o = 10 ∨ o = 11 ∨ o = 12 ∨ o = 13 ∨ o = 14 ∨ o = 15 := by omega
    rcases hc with hc | hc | hc | hc | hc | hc | hc
    · by_cases hE : ¬ ((w < 0) ↔ (z < 0)) ∨ ((am_w64 (w + z) < 0) ↔ (w < 0))
      · exact ⟨0, _, Or.inr (Or.inr ⟨h1, h2, Or.inl ⟨hc, Or.inl ⟨hE, rfl, rfl⟩⟩⟩), am_w64_in _, by decide⟩
      · exact ⟨4, 0, Or.inr (Or.inr ⟨h1, h2, Or.inl ⟨hc, Or.inr ⟨hE, rfl⟩⟩⟩), by decide, by decide⟩
    · by_cases hE : ((w < 0) ↔ (z < 0)) ∨ ((am_w64 (w - z) < 0) ↔ (w < 0))
      · exact ⟨0, _, Or.inr (Or.inr ⟨h1, h2, Or.inr (Or.inl ⟨hc, Or.inl ⟨hE, rfl, rfl⟩⟩)⟩), am_w64_in _, by decide⟩
      · exact ⟨4, 0, Or.inr (Or.inr ⟨h1, h2, Or.inr (Or.inl ⟨hc, Or.inr ⟨hE, rfl⟩⟩)⟩), by decide, by decide⟩
    · by_cases hE : -9223372036854775808 ≤ w * z ∧ w * z < 9223372036854775808
      · exact ⟨0, _, Or.inr (Or.inr ⟨h1, h2, Or.inr (Or.inr (Or.inl ⟨hc, Or.inl ⟨hE, rfl, rfl⟩⟩))⟩), am_w64_in _, by decide⟩
      · exact ⟨4, 0, Or.inr (Or.inr ⟨h1, h2, Or.inr (Or.inr (Or.inl ⟨hc, Or.inr ⟨hE, rfl⟩⟩))⟩), by decide, by decide⟩
    · by_cases h0 : z = 0
      · exact ⟨5, 0, Or.inr (Or.inr ⟨h1, h2, Or.inr (Or.inr (Or.inr (Or.inl ⟨hc, Or.inl ⟨h0, rfl⟩⟩)))⟩), by decide, by decide⟩
      · by_cases hm1 : z = -1
        · by_cases hw1 : w = -9223372036854775808
          · exact ⟨4, 0, Or.inr (Or.inr ⟨h1, h2, Or.inr (Or.inr (Or.inr (Or.inl ⟨hc, Or.inr (Or.inl ⟨hm1, hw1, rfl⟩)⟩)))⟩), by decide, by decide⟩
          · exact ⟨0, _, Or.inr (Or.inr ⟨h1, h2, Or.inr (Or.inr (Or.inr (Or.inl ⟨hc, Or.inr (Or.inr (Or.inl ⟨hm1, hw1, rfl, rfl⟩))⟩)))⟩), am_w64_in _, by decide⟩
        · exact ⟨0, _, Or.inr (Or.inr ⟨h1, h2, Or.inr (Or.inr (Or.inr (Or.inl ⟨hc, Or.inr (Or.inr (Or.inr ⟨h0, hm1, rfl, rfl⟩))⟩)))⟩), am_w64_in _, by decide⟩
    · by_cases h0 : z = 0
      · exact ⟨5, 0, Or.inr (Or.inr ⟨h1, h2, Or.inr (Or.inr (Or.inr (Or.inr (Or.inl ⟨hc, Or.inl ⟨h0, rfl⟩⟩))))⟩), by decide, by decide⟩
      · by_cases hm1 : z = -1
        · exact ⟨0, 0, Or.inr (Or.inr ⟨h1, h2, Or.inr (Or.inr (Or.inr (Or.inr (Or.inl ⟨hc, Or.inr (Or.inl ⟨hm1, rfl, rfl⟩)⟩))))⟩), by decide, by decide⟩
        · exact ⟨0, _, Or.inr (Or.inr ⟨h1, h2, Or.inr (Or.inr (Or.inr (Or.inr (Or.inl ⟨hc, Or.inr (Or.inr ⟨h0, hm1, rfl, rfl⟩)⟩))))⟩), ak_tmod_in hw hz h0, by decide⟩
    · by_cases hl : w < z
      · exact ⟨0, 1, Or.inr (Or.inr ⟨h1, h2, Or.inr (Or.inr (Or.inr (Or.inr (Or.inr (Or.inl ⟨hc, rfl, Or.inl ⟨hl, rfl⟩⟩)))))⟩), by decide, by decide⟩
      · exact ⟨0, 0, Or.inr (Or.inr ⟨h1, h2, Or.inr (Or.inr (Or.inr (Or.inr (Or.inr (Or.inl ⟨hc, rfl, Or.inr ⟨hl, rfl⟩⟩)))))⟩), by decide, by decide⟩
    · by_cases hl : z < w
      · exact ⟨0, 1, Or.inr (Or.inr ⟨h1, h2, Or.inr (Or.inr (Or.inr (Or.inr (Or.inr (Or.inr ⟨hc, rfl, Or.inl ⟨hl, rfl⟩⟩)))))⟩), by decide, by decide⟩
      · exact ⟨0, 0, Or.inr (Or.inr ⟨h1, h2, Or.inr (Or.inr (Or.inr (Or.inr (Or.inr (Or.inr ⟨hc, rfl, Or.inr ⟨hl, rfl⟩⟩)))))⟩), by decide, by decide⟩
  · exact ⟨3, 0, Or.inr (Or.inl ⟨h16, hst, rfl⟩), by decide, by decide⟩
/-- the one puts a sum or fails -/
theorem ak_83 (hu : u = 0 ∨ u = 1) {fits : Int} (q : (fits ≠ 0 → ak_MV e 0 (d + 30) (ak_rc u ρ1 ρ2) 73 [am_r 32, am_i 1, am_l x] S Q (fun _ _ => False)) ∧ (fits = 0 → ak_MV e 0 (d + 30) (ak_rc u ρ1 ρ2) 77 [am_r 32, am_i 4, am_i 0, am_l 0] S Q (fun _ _ => False))) : ak_MV e 0 (d + 37) (ak_rc u ρ1 ρ2) 83 [am_r 32, am_l x, am_i fits] S Q X :=
  ak_MV_of (Nat.le_of_ble_eq_true rfl) (am_k83_0 hu ⟨fun z => ak_MV_deep (show d + 30 ≤ d + 36 by omega) (q.2 z), fun z => ak_MV_deep (show d + 30 ≤ d + 36 by omega) (q.1 z)⟩)
set_option maxHeartbeats 1000000 in
theorem ak_80t (hu : u = 0 ∨ u = 1) (ho : 9 ≤ o ∧ o ≤ 16) (hn : n + 2 < 12600) (h10 : h.1 32 10 = ((n + 2 : Nat) : Int)) (r1 : h.1 108 n = s) (r2 : h.2.1 109 n = w) (r3 : h.1 108 (n + 1) = t) (r4 : h.2.1 109 (n + 1) = z) (hw : -9223372036854775808 ≤ w ∧ w < 9223372036854775808) (hz : -9223372036854775808 ≤ z ∧ z < 9223372036854775808) (R : ak_rs2 o s w t z k v)
    (q : (k = 0 → ak_MV e 0 (d + 30) (ak_rc u ρ1 ρ2) 73 [am_r 32, am_i 1, am_l v] (ak_szC (ak_szC h (n + 1)) n) Q (fun _ _ => False)) ∧ (k ≠ 0 → ak_MV e 0 (d + 30) (ak_rc u ρ1 ρ2) 77 [am_r 32, am_i k, am_i 0, am_l 0] (ak_szC (ak_szC h (n + 1)) n) Q (fun _ _ => False))) : ak_MV e 0 (d + 39) (ak_rc u ρ1 ρ2) 80 [am_r 32, am_i (o : Int)] h Q X := by
  have b1 : 0 ≤ ((n : Nat) : Int) ∧ ((n : Nat) : Int) < 12600 := by omega
  have b2 : 0 ≤ ((n + 1 : Nat) : Int) ∧ ((n + 1 : Nat) : Int) < 12600 := by omega
  have SO : ∀ q' i, ¬ (q' = 32 ∧ i = 10) → (ak_szC (ak_szC h (n + 1)) n).1 q' i = h.1 q' i := fun q' i a => (ak_szC_o a).trans (ak_szC_o a)
  have SJ : (ak_szC (ak_szC h (n + 1)) n).2 = h.2 := rfl
  have q3 : k = 3 → ak_W0 e 0 (d + 38) 80 (ak_rc u ρ1 ρ2) 90 [some (am_r 32), none, none, none, none, none, none, none] [] (ak_szC (ak_szC h (n + 1)) n) (ak_qv Q X) := fun h3 => by
    have := q.2 (by omega)
    rw [h3] at this
    exact am_k80_90 hu (ak_MV_deep (show d + 30 ≤ d + 38 by omega) this)
  have p73 : k = 0 → ∀ {D}, d + 30 ≤ D → ak_MV e 0 D (ak_rc u ρ1 ρ2) 73 [am_r 32, am_i 1, am_l v] (ak_szC (ak_szC h (n + 1)) n) Q (fun _ _ => False) := fun h0 D hD => ak_MV_deep hD (q.1 h0)
  have p77 : ∀ k', k = k' → k' ≠ 0 → ∀ {D}, d + 30 ≤ D → ak_MV e 0 D (ak_rc u ρ1 ρ2) 77 [am_r 32, am_i k', am_i 0, am_l 0] (ak_szC (ak_szC h (n + 1)) n) Q (fun _ _ => False) := fun k' hk h0 D hD => by
    subst hk
    exact ak_MV_deep hD (q.2 h0)
  refine ak_MV_of (Nat.le_of_ble_eq_true rfl) (am_k80_0 hu (am_s74 (d := d + 37) (n := n + 1) hu h10 (by omega) ⟨fun _ => am_s74 (d := d + 37) (n := n) hu ak_szC_v (by omega) ?_, fun z' => absurd z' (by omega)⟩))
  rw [ak_natn, ak_natn, SO 108 _ (by omega), SO 108 _ (by omega), SJ, r1, r2, r3, r4]
  rcases R with ⟨h1, h2, h3⟩ | ⟨h1, h2, h3⟩ | ⟨hs, ht, R⟩
  · -- same
    refine ⟨fun z' => absurd (show (o : Int) = 16 by omega) z', fun _ => ⟨b1, b2, fun z' => ?_, fun z' => ⟨b1, b2, fun z2 => ?_, fun z2 => ?_⟩⟩⟩
    · rcases h3 with ⟨a, _⟩ | ⟨_, a⟩
      · exact absurd a z'
      · subst a; exact p73 h2 (by omega)
    · rcases h3 with ⟨_, a, _⟩ | ⟨_, a⟩
      · exact absurd (ak_lsign0.mpr a) z2
      · subst a; exact p73 h2 (by omega)
    · rcases h3 with ⟨_, _, a⟩ | ⟨a, _⟩
      · subst a; exact p73 h2 (by omega)
      · exact absurd ⟨z', ak_lsign0.mp z2⟩ a
  · -- no numbers
    refine ⟨fun _ => ⟨b1, fun _ => q3 h3, fun z' => ⟨b2, fun z2 => absurd ⟨z', z2⟩ h2, fun _ => q3 h3⟩⟩, fun z' => absurd (show (o : Int) ≠ 16 by omega) (fun y => y z')⟩
  · have o16 : (o : Int) ≠ 16 := by rcases R with ⟨a, _⟩ | ⟨a, _⟩ | ⟨a, _⟩ | ⟨a, _⟩ | ⟨a, _⟩ | ⟨a, _⟩ | ⟨a, _⟩ <;> omega
    refine ⟨fun _ => ⟨b1, fun z' => absurd hs z', fun _ => ⟨b2, fun _ => ⟨b1, b2, trivial, ?_⟩, fun z' => absurd ht z'⟩⟩, fun z' => absurd z' o16⟩
    rcases R with ⟨ho', R⟩ | ⟨ho', R⟩ | ⟨ho', R⟩ | ⟨ho', R⟩ | ⟨ho', R⟩ | ⟨ho', hk0, R⟩ | ⟨ho', hk0, R⟩
    · refine ⟨fun z' => absurd z' (by omega), fun _ => ?_, fun z' => absurd z' (by omega), fun z' => absurd z' (by omega), fun z' => absurd z' (by omega), fun z' => absurd z' (by omega), fun z' => absurd z' (by omega), fun z' => absurd z' (by omega), trivial⟩
      refine am_k80_156 hu ⟨fun g => ?_, fun g => ?_⟩
      · have g2 := (ak_sum_fits hw hz).mp g
        rcases R with ⟨a, _⟩ | ⟨_, a⟩
        · exact absurd a g2
        · exact ak_MV_deep (show d + 37 ≤ d + 38 by omega) (ak_83 hu ⟨fun y => absurd rfl y, fun _ => p77 4 a (by decide) (by omega)⟩)
      · have g2 : ¬ _ := fun y => absurd ((ak_sum_fits hw hz).mpr y) (by omega)
        rcases R with ⟨_, a, b⟩ | ⟨a, _⟩
        · subst b
          exact ak_MV_deep (show d + 37 ≤ d + 38 by omega) (ak_83 hu ⟨fun _ => p73 a (by omega), fun y => absurd y (by decide)⟩)
        · exact absurd a g2
    · refine ⟨fun z' => absurd z' (by omega), fun z' => absurd z' (by omega), fun _ => ?_, fun z' => absurd z' (by omega), fun z' => absurd z' (by omega), fun z' => absurd z' (by omega), fun z' => absurd z' (by omega), fun z' => absurd z' (by omega), trivial⟩
      refine am_k80_193 hu ⟨fun g => ?_, fun g => ?_⟩
      · have g2 := (ak_dif_fits hw hz).mp g
        rcases R with ⟨a, _⟩ | ⟨_, a⟩
        · exact absurd a g2
        · exact ak_MV_deep (show d + 37 ≤ d + 38 by omega) (ak_83 hu ⟨fun y => absurd rfl y, fun _ => p77 4 a (by decide) (by omega)⟩)
      · have g2 : ¬ _ := fun y => absurd ((ak_dif_fits hw hz).mpr y) (by omega)
        rcases R with ⟨_, a, b⟩ | ⟨a, _⟩
        · subst b
          exact ak_MV_deep (show d + 37 ≤ d + 38 by omega) (ak_83 hu ⟨fun _ => p73 a (by omega), fun y => absurd y (by decide)⟩)
        · exact absurd a g2
    · refine ⟨fun z' => absurd z' (by omega), fun z' => absurd z' (by omega), fun z' => absurd z' (by omega), fun _ => ?_, fun z' => absurd z' (by omega), fun z' => absurd z' (by omega), fun z' => absurd z' (by omega), fun z' => absurd z' (by omega), trivial⟩
      have fin1 : (-9223372036854775808 ≤ w * z ∧ w * z < 9223372036854775808) → ak_MV e 0 (d + 38) (ak_rc u ρ1 ρ2) 83 [am_r 32, am_l (am_w64 (w * z)), am_i 1] (ak_szC (ak_szC h (n + 1)) n) (fun h3 => Q h3) (fun _ _ => False) := fun g => by
        rcases R with ⟨_, a, b⟩ | ⟨a, _⟩
        · subst b
          exact ak_MV_deep (show d + 37 ≤ d + 38 by omega) (ak_83 hu ⟨fun _ => p73 a (by omega), fun y => absurd y (by decide)⟩)
        · exact absurd g a
      have fin0 : ¬ (-9223372036854775808 ≤ w * z ∧ w * z < 9223372036854775808) → ak_MV e 0 (d + 38) (ak_rc u ρ1 ρ2) 83 [am_r 32, am_l (am_w64 (w * z)), am_i 0] (ak_szC (ak_szC h (n + 1)) n) (fun h3 => Q h3) (fun _ _ => False) := fun g => by
        rcases R with ⟨a, _⟩ | ⟨_, a⟩
        · exact absurd a g
        · exact ak_MV_deep (show d + 37 ≤ d + 38 by omega) (ak_83 hu ⟨fun y => absurd rfl y, fun _ => p77 4 a (by decide) (by omega)⟩)
      refine am_k80_227 hu (ak_MI_of (Nat.le_of_ble_eq_true rfl) (am_k84_0 hu ⟨fun g => ⟨Or.inr rfl, fin1 (by rw [ak_lsign0.mp g, Int.zero_mul]; decide)⟩, fun g => ⟨fun g2 => ?_, fun g2 => ⟨Or.inr rfl, fin1 (by rw [ak_lsign0.mp g2, Int.mul_zero]; decide)⟩⟩⟩))
      have gw : w ≠ 0 := fun y => g (ak_lsign0.mpr y)
      have gz : z ≠ 0 := fun y => g2 (ak_lsign0.mpr y)
      have lab30 : (w = -1 ∨ z = -1) → ak_W0 e 0 (d + 37) 84 (ak_rc u ρ1 ρ2) 30 [some (am_l w), none, some (am_l z), none] [] (ak_szC (ak_szC h (n + 1)) n) (ak_qi (fun v2 h1 => ak_MV e 0 (d + 38) (ak_rc u ρ1 ρ2) 83 [am_r 32, am_l (am_w64 (w * z)), am_i v2] h1 (fun h3 => Q h3) (fun _ _ => False)) (fun _ _ => False)) := fun hh => by
        refine am_k84_30 hu ⟨fun g3 => ⟨Or.inl rfl, fin0 ?_⟩, fun g3 => ⟨fun g4 => ⟨Or.inl rfl, fin0 ?_⟩, fun g4 => ⟨Or.inr rfl, fin1 ?_⟩⟩⟩
        · have := ak_lsign0.mp g3
          rcases hh with hh | hh
          · omega
          · rw [hh, this]; decide
        · have := ak_lsign0.mp g4
          rcases hh with hh | hh
          · rw [hh, this]; decide
          · omega
        · have g5 : w ≠ -9223372036854775808 := fun y => g3 (ak_lsign0.mpr y)
          have g6 : z ≠ -9223372036854775808 := fun y => g4 (ak_lsign0.mpr y)
          rcases hh with hh | hh
          · rw [hh]; omega
          · rw [hh]; omega
      refine ⟨fun g3 => lab30 (Or.inl (ak_lsign0.mp g3)), fun g3 => ⟨fun g4 => ⟨gz, fun g5 => ⟨Or.inl rfl, fin0 ?_⟩, fun g5 => ⟨Or.inr rfl, fin1 ?_⟩⟩, fun g4 => lab30 (Or.inr (ak_lsign0.mp g4))⟩⟩
      · exact fun y => g5 (ak_lsign0.mpr ((ak_mul_back hw hz gz (fun y => g4 (ak_lsign0.mpr y))).mpr y))
      · exact (ak_mul_back hw hz gz (fun y => g4 (ak_lsign0.mpr y))).mp (ak_lsign0.mp g5)
    · refine ⟨fun z' => absurd z' (by omega), fun z' => absurd z' (by omega), fun z' => absurd z' (by omega), fun z' => absurd z' (by omega), fun _ => am_k80_282 hu (ak_MV_of (Nat.le_of_ble_eq_true rfl) (am_k82_0 hu ?_)), fun z' => absurd z' (by omega), fun z' => absurd z' (by omega), fun z' => absurd z' (by omega), trivial⟩
      refine ⟨fun g => ⟨fun _ => ⟨fun g2 => ⟨fun y => g (ak_lsign0.mpr y), ?_⟩, fun g2 => ⟨fun g3 => ?_, fun g3 => ?_⟩⟩, fun z' => absurd z' (by omega)⟩, fun g => ?_⟩
      · rcases R with ⟨a, _⟩ | ⟨a, _⟩ | ⟨a, _⟩ | ⟨_, _, a, b⟩
        · exact absurd (ak_lsign0.mpr a) g
        · exact absurd (ak_lsign0.mpr a) g2
        · exact absurd (ak_lsign0.mpr a) g2
        · subst b; exact p73 a (by omega)
      · have g4 := ak_lsign0.mp g3
        have g5 := ak_lsign0.mp g2
        rcases R with ⟨a, _⟩ | ⟨_, _, a⟩ | ⟨_, a, _⟩ | ⟨_, a, _⟩
        · exact absurd (ak_lsign0.mpr a) g
        · exact ak_83 hu ⟨fun y => absurd rfl y, fun _ => p77 4 a (by decide) (by omega)⟩
        · exact absurd g4 a
        · exact absurd g5 a
      · have g5 := ak_lsign0.mp g2
        rcases R with ⟨a, _⟩ | ⟨_, a, _⟩ | ⟨_, _, a, b⟩ | ⟨_, a, _⟩
        · exact absurd (ak_lsign0.mpr a) g
        · exact absurd (ak_lsign0.mpr a) g3
        · subst b; exact ak_83 hu ⟨fun _ => p73 a (by omega), fun y => absurd y (by decide)⟩
        · exact absurd g5 a
      · have g5 := ak_lsign0.mp g
        rcases R with ⟨_, a⟩ | ⟨a, _⟩ | ⟨a, _⟩ | ⟨a, _⟩
        · exact p77 5 a (by decide) (by omega)
        · omega
        · omega
        · exact absurd g5 a
    · refine ⟨fun z' => absurd z' (by omega), fun z' => absurd z' (by omega), fun z' => absurd z' (by omega), fun z' => absurd z' (by omega), fun z' => absurd z' (by omega), fun _ => am_k80_282 hu (ak_MV_of (Nat.le_of_ble_eq_true rfl) (am_k82_0 hu ?_)), fun z' => absurd z' (by omega), fun z' => absurd z' (by omega), trivial⟩
      refine ⟨fun g => ⟨fun z' => absurd (show (o : Int) = 13 by omega) z', fun _ => ⟨fun g2 => ⟨fun y => g (ak_lsign0.mpr y), ?_⟩, fun g2 => ?_⟩⟩, fun g => ?_⟩
      · rcases R with ⟨a, _⟩ | ⟨a, _⟩ | ⟨_, _, a, b⟩
        · exact absurd (ak_lsign0.mpr a) g
        · exact absurd (ak_lsign0.mpr a) g2
        · subst b; exact p73 a (by omega)
      · have g5 := ak_lsign0.mp g2
        rcases R with ⟨a, _⟩ | ⟨_, a, b⟩ | ⟨_, a, _⟩
        · exact absurd (ak_lsign0.mpr a) g
        · subst b; exact p73 a (by omega)
        · exact absurd g5 a
      · have g5 := ak_lsign0.mp g
        rcases R with ⟨_, a⟩ | ⟨a, _⟩ | ⟨a, _⟩
        · exact p77 5 a (by decide) (by omega)
        · omega
        · exact absurd g5 a
    · refine ⟨fun z' => absurd z' (by omega), fun z' => absurd z' (by omega), fun z' => absurd z' (by omega), fun z' => absurd z' (by omega), fun z' => absurd z' (by omega), fun z' => absurd z' (by omega), fun _ => am_k80_244 hu ⟨fun g => ?_, fun g => ?_⟩, fun z' => absurd z' (by omega), trivial⟩
      · have g2 := ak_lsign_lt.2.mp g
        rcases R with ⟨a, _⟩ | ⟨_, b⟩
        · omega
        · subst b; exact p73 hk0 (by omega)
      · have g2 := ak_lsign_lt.1.mp g
        rcases R with ⟨_, b⟩ | ⟨a, _⟩
        · subst b; exact p73 hk0 (by omega)
        · exact absurd g2 a
    · have lg : ∀ a b : Int, (am_lsign a b ≤ 0 ↔ a ≤ b) ∧ (0 < am_lsign a b ↔ b < a) := fun a b => by
        unfold am_lsign
        split
        · constructor <;> constructor <;> intro h <;> omega
        · split
          · constructor <;> constructor <;> intro h <;> omega
          · constructor <;> constructor <;> intro h <;> omega
      refine ⟨fun z' => absurd z' (by omega), fun z' => absurd z' (by omega), fun z' => absurd z' (by omega), fun z' => absurd z' (by omega), fun z' => absurd z' (by omega), fun z' => absurd z' (by omega), fun z' => absurd z' (by omega), fun _ => am_k80_263 hu ⟨fun g => ?_, fun g => ?_⟩, trivial⟩
      · have g2 := (lg _ _).1.mp g
        rcases R with ⟨a, _⟩ | ⟨_, b⟩
        · omega
        · subst b; exact p73 hk0 (by omega)
      · have g2 := (lg _ _).2.mp g
        rcases R with ⟨_, b⟩ | ⟨a, _⟩
        · subst b; exact p73 hk0 (by omega)
        · exact absurd g2 a
end TWO
