/-! the run: two numbers, the other's side -/
section TWOM
variable {e : ak_X3} {d ρ1 ρ2 n o u : Nat} {ρ : List Nat} {h hX S : ak_S} {s w t z k v op x : Int} {Q : ak_S → Prop} {X : Nat → ak_S → Prop}
theorem ak_lsgn (a b : Int) : (am_lsign a b ≤ 0 ↔ a ≤ b) ∧ (0 < am_lsign a b ↔ b < a) := by
  unfold am_lsign
  split
  · constructor <;> constructor <;> intro h <;> omega
  · split
    · constructor <;> constructor <;> intro h <;> omega
    · constructor <;> constructor <;> intro h <;> omega
set_option maxHeartbeats 1000000 in
theorem ak_285 (hop : ak_opr op (o : Int)) (hn : n + 2 < 20000) (h127 : h.1 110 127 = ((n + 2 : Nat) : Int)) (r1 : h.1 199 n = s) (r2 : h.2.1 200 n = w) (r3 : h.1 199 (n + 1) = t) (r4 : h.2.1 200 (n + 1) = z) (hw : -9223372036854775808 ≤ w ∧ w < 9223372036854775808) (hz : -9223372036854775808 ≤ z ∧ z < 9223372036854775808) (R : ak_rs2 o s w t z k v)
    (q : (k = 0 → ak_MV e 1 (d + 38) ρ 286 [am_r 110, am_l v] h Q (fun _ _ => False)) ∧ (k ≠ 0 → ak_MV e 1 (d + 38) ρ 270 [am_r 110, am_i k] h Q (fun _ _ => False))) : ak_MV e 1 (d + 39) ρ 285 [am_r 110, am_i op] h Q X := by
  have b1 : 0 ≤ ((n : Nat) : Int) ∧ ((n : Nat) : Int) < 20000 := by omega
  have b2 : 0 ≤ ((n + 1 : Nat) : Int) ∧ ((n + 1 : Nat) : Int) < 20000 := by omega
  have p0 : ∀ v', k = 0 → v = v' → ak_MV e 1 (d + 38) ρ 286 [am_r 110, am_l v'] h Q (fun _ _ => False) := fun v' h0 hv => by subst hv; exact q.1 h0
  have pk : ∀ k', k = k' → k' ≠ 0 → ak_MV e 1 (d + 38) ρ 270 [am_r 110, am_i k'] h Q (fun _ _ => False) := fun k' hk h0 => by subst hk; exact q.2 h0
  have q3 : k = 3 → ak_W0 e 1 (d + 38) 285 ρ 88 [some (am_r 110), none, none, none, none, none, none, none, none, none, none] [] h (ak_qv Q X) := fun h3 => am_k285_88 (pk 3 h3 (by decide))
  have F1 : ∀ v', k = 0 → v = v' → ak_W0 e 1 (d + 38) 285 ρ 497 [some (am_r 110), none, none, none, none, none, none, none, some (am_l v'), none, some (am_i 1)] [] h (ak_qv Q X) := fun v' h0 hv => am_k285_497 ⟨fun y => absurd y (by decide), fun _ => p0 v' h0 hv⟩
  have F0 : ∀ v', k = 4 → ak_W0 e 1 (d + 38) 285 ρ 497 [some (am_r 110), none, none, none, none, none, none, none, some (am_l v'), none, some (am_i 0)] [] h (ak_qv Q X) := fun v' h4 => am_k285_497 ⟨fun _ => pk 4 h4 (by decide), fun y => absurd rfl y⟩
  refine ak_MV_of (Nat.le_of_ble_eq_true rfl) (am_k285_0 ?_)
  rw [h127, show am_w32 (((n + 2 : Nat) : Int) - 2) = (n : Int) from by rw [ak_w _ (by omega)]; omega, show am_w32 (((n + 2 : Nat) : Int) - 1) = ((n + 1 : Nat) : Int) from by rw [ak_w _ (by omega)]; omega, ak_natn, ak_natn, r1, r2, r3, r4]
  refine ⟨b1, b2, b1, b2, ?_⟩
  unfold ak_opr at hop
  rcases R with ⟨h1, h2, h3⟩ | ⟨h1, h2, h3⟩ | ⟨hs, ht, R⟩
  · have e4 : op = 4 := by omega
    refine ⟨fun y => absurd e4 y, fun _ => ⟨fun y => ?_, fun y => ⟨fun y2 => ?_, fun y2 => ?_⟩⟩⟩
    · rcases h3 with ⟨a, _⟩ | ⟨_, a⟩
      · exact absurd a y
      · exact p0 0 h2 a
    · rcases h3 with ⟨_, a, _⟩ | ⟨_, a⟩
      · exact absurd (ak_lsign0.mpr a) y2
      · exact p0 0 h2 a
    · rcases h3 with ⟨_, _, a⟩ | ⟨a, _⟩
      · exact p0 1 h2 a
      · exact absurd ⟨y, ak_lsign0.mp y2⟩ a
  · refine ⟨fun _ => ⟨fun _ => q3 h3, fun y => ⟨fun y2 => absurd ⟨y, y2⟩ h2, fun _ => q3 h3⟩⟩, fun y => absurd y (by omega)⟩
  · have n4 : op ≠ 4 := by rcases R with ⟨a, _⟩ | ⟨a, _⟩ | ⟨a, _⟩ | ⟨a, _⟩ | ⟨a, _⟩ | ⟨a, _⟩ | ⟨a, _⟩ <;> omega
    refine ⟨fun _ => ⟨fun y => absurd hs y, fun _ => ⟨fun _ => ?_, fun y => absurd ht y⟩⟩, fun y => absurd y n4⟩
    have L119 : ∀ (l : List Unit), (op = 42 ∨ op = 43 ∨ op = 45 ∨ op = 60 ∨ op = 62 ∨ ((op = 47 ∨ op = 37) ∧ z ≠ 0)) → ak_W0 e 1 (d + 38) 285 ρ 119 [some (am_r 110), some (am_i op), none, none, some (am_l w), none, some (am_l z), none, none, none, none] [] h (ak_qv Q X) := by
      intro _ hh
      refine am_k285_119 ⟨trivial, ?_⟩
      rcases R with ⟨ho', R⟩ | ⟨ho', R⟩ | ⟨ho', R⟩ | ⟨ho', R⟩ | ⟨ho', R⟩ | ⟨ho', hk0, R⟩ | ⟨ho', hk0, R⟩
      · -- plus
        have eo : op = 43 := by omega
        refine ⟨fun y => absurd eo y.2.1, fun y => absurd y (by omega), fun _ => ?_, fun y => absurd y (by omega), fun y => absurd y (by omega), fun y => absurd y (by omega), fun y => absurd y (by omega), trivial⟩
        have fin : ∀ a b : Int, (a = 1 ↔ w < 0) → (a = 0 ∨ a = 1) → (b = 1 ↔ z < 0) → (b = 0 ∨ b = 1) → ak_W0 e 1 (d + 38) 285 ρ 251 [some (am_r 110), none, none, none, some (am_l w), none, none, none, some (am_l (am_w64 (w + z))), none, none] [am_i b, am_i a] h (ak_qv Q X) := by
          intro a b a1 a2 b1' b2'
          refine am_k285_251 ⟨fun y => am_k285_281 ?_, fun y => ⟨fun g => am_k285_266 ⟨fun g2 => am_k285_278 ⟨fun y2 => absurd rfl y2, fun _ => am_k285_281 ?_⟩, fun g2 => am_k285_278 ⟨fun _ => ?_, fun y2 => absurd y2 (by decide)⟩⟩, fun g => am_k285_266 ⟨fun g2 => am_k285_278 ⟨fun _ => ?_, fun y2 => absurd y2 (by decide)⟩, fun g2 => am_k285_278 ⟨fun y2 => absurd rfl y2, fun _ => am_k285_281 ?_⟩⟩⟩⟩
          · rcases R with ⟨_, a', b'⟩ | ⟨a', _⟩
            · exact F1 _ a' b'
            · exact absurd (Or.inl (fun hh2 => y (by rcases a2 with h | h <;> rcases b2' with h' | h' <;> first | omega | (exfalso; have := a1; have := b1'; omega)))) a'
          · have g3 := ak_lsign_lt.2.mp g
            have g4 := ak_lsign_lt.2.mp g2
            rcases R with ⟨_, a', b'⟩ | ⟨a', _⟩
            · exact F1 _ a' b'
            · exact absurd (Or.inr ⟨fun _ => by omega, fun _ => by omega⟩) a'
          · have g3 := ak_lsign_lt.2.mp g
            have g4 := ak_lsign_lt.1.mp g2
            rcases R with ⟨a', _⟩ | ⟨_, a'⟩
            · rcases a' with a' | a'
              · exact absurd (show (w < 0 ↔ z < 0) from ⟨fun _ => b1'.mp (by rw [← y]; exact a1.mpr g4), fun _ => g4⟩) a'
              · exact absurd (a'.mpr g4) (by omega)
            · exact F0 _ a'
          · have g3 := ak_lsign_lt.1.mp g
            have g4 := ak_lsign_lt.2.mp g2
            rcases R with ⟨a', _⟩ | ⟨_, a'⟩
            · rcases a' with a' | a'
              · exact absurd (show (w < 0 ↔ z < 0) from ⟨fun hq => absurd hq (by omega), fun hq => a1.mp (by rw [y]; exact b1'.mpr hq)⟩) a'
              · exact absurd (a'.mp g3) (by omega)
            · exact F0 _ a'
          · have g3 := ak_lsign_lt.1.mp g
            have g4 := ak_lsign_lt.1.mp g2
            rcases R with ⟨_, a', b'⟩ | ⟨a', _⟩
            · exact F1 _ a' b'
            · exact absurd (Or.inr ⟨fun _ => g4, fun _ => g3⟩) a'
        refine ⟨fun g => ?_, fun g => ?_⟩
        · have g1 := ak_lsign_lt.2.mp g
          exact am_k285_239 ⟨fun g2 => fin 0 0 ⟨fun h => absurd h (by decide), fun h => by omega⟩ (Or.inl rfl) ⟨fun h => absurd h (by decide), fun h => by have := ak_lsign_lt.2.mp g2; omega⟩ (Or.inl rfl), fun g2 => fin 0 1 ⟨fun h => absurd h (by decide), fun h => by omega⟩ (Or.inl rfl) ⟨fun _ => ak_lsign_lt.1.mp g2, fun _ => rfl⟩ (Or.inr rfl)⟩
        · have g1 := ak_lsign_lt.1.mp g
          exact am_k285_239 ⟨fun g2 => fin 1 0 ⟨fun _ => g1, fun _ => rfl⟩ (Or.inr rfl) ⟨fun h => absurd h (by decide), fun h => by have := ak_lsign_lt.2.mp g2; omega⟩ (Or.inl rfl), fun g2 => fin 1 1 ⟨fun _ => g1, fun _ => rfl⟩ (Or.inr rfl) ⟨fun _ => ak_lsign_lt.1.mp g2, fun _ => rfl⟩ (Or.inr rfl)⟩
      · -- minus
        have eo : op = 45 := by omega
        refine ⟨fun y => absurd eo y.2.2.1, fun y => absurd y (by omega), fun y => absurd y (by omega), fun _ => ?_, fun y => absurd y (by omega), fun y => absurd y (by omega), fun y => absurd y (by omega), trivial⟩
        have fin : ∀ a b : Int, (a = 1 ↔ w < 0) → (a = 0 ∨ a = 1) → (b = 1 ↔ z < 0) → (b = 0 ∨ b = 1) → ak_W0 e 1 (d + 38) 285 ρ 322 [some (am_r 110), none, none, none, some (am_l w), none, none, none, some (am_l (am_w64 (w - z))), none, none] [am_i b, am_i a] h (ak_qv Q X) := by
          intro a b a1 a2 b1' b2'
          have iff : a = b ↔ (w < 0 ↔ z < 0) := by
            constructor
            · intro hab
              rw [← a1, ← b1', hab]
            · intro hwz
              have : a = 1 ↔ b = 1 := a1.trans (hwz.trans b1'.symm)
              rcases a2 with h | h <;> rcases b2' with h' | h' <;> omega
          refine am_k285_322 ⟨fun y => am_k285_352 ?_, fun y => ⟨fun g => am_k285_337 ⟨fun g2 => am_k285_349 ⟨fun y2 => absurd rfl y2, fun _ => am_k285_352 ?_⟩, fun g2 => am_k285_349 ⟨fun _ => ?_, fun y2 => absurd y2 (by decide)⟩⟩, fun g => am_k285_337 ⟨fun g2 => am_k285_349 ⟨fun _ => ?_, fun y2 => absurd y2 (by decide)⟩, fun g2 => am_k285_349 ⟨fun y2 => absurd rfl y2, fun _ => am_k285_352 ?_⟩⟩⟩⟩
          · rcases R with ⟨_, a', b'⟩ | ⟨a', _⟩
            · exact F1 _ a' b'
            · exact absurd (Or.inl (iff.mp y)) a'
          · have g3 := ak_lsign_lt.2.mp g
            have g4 := ak_lsign_lt.2.mp g2
            rcases R with ⟨_, a', b'⟩ | ⟨a', _⟩
            · exact F1 _ a' b'
            · exact absurd (Or.inr ⟨fun _ => by omega, fun _ => by omega⟩) a'
          · have g3 := ak_lsign_lt.2.mp g
            have g4 := ak_lsign_lt.1.mp g2
            rcases R with ⟨a', _⟩ | ⟨_, a'⟩
            · rcases a' with a' | a'
              · exact absurd (iff.mpr a') y
              · exact absurd (a'.mpr g4) (by omega)
            · exact F0 _ a'
          · have g3 := ak_lsign_lt.1.mp g
            have g4 := ak_lsign_lt.2.mp g2
            rcases R with ⟨a', _⟩ | ⟨_, a'⟩
            · rcases a' with a' | a'
              · exact absurd (iff.mpr a') y
              · exact absurd (a'.mp g3) (by omega)
            · exact F0 _ a'
          · have g3 := ak_lsign_lt.1.mp g
            have g4 := ak_lsign_lt.1.mp g2
            rcases R with ⟨_, a', b'⟩ | ⟨a', _⟩
            · exact F1 _ a' b'
            · exact absurd (Or.inr ⟨fun _ => g4, fun _ => g3⟩) a'
        refine ⟨fun g => ?_, fun g => ?_⟩
        · have g1 := ak_lsign_lt.2.mp g
          exact am_k285_310 ⟨fun g2 => fin 0 0 ⟨fun h => absurd h (by decide), fun h => by omega⟩ (Or.inl rfl) ⟨fun h => absurd h (by decide), fun h => by have := ak_lsign_lt.2.mp g2; omega⟩ (Or.inl rfl), fun g2 => fin 0 1 ⟨fun h => absurd h (by decide), fun h => by omega⟩ (Or.inl rfl) ⟨fun _ => ak_lsign_lt.1.mp g2, fun _ => rfl⟩ (Or.inr rfl)⟩
        · have g1 := ak_lsign_lt.1.mp g
          exact am_k285_310 ⟨fun g2 => fin 1 0 ⟨fun _ => g1, fun _ => rfl⟩ (Or.inr rfl) ⟨fun h => absurd h (by decide), fun h => by have := ak_lsign_lt.2.mp g2; omega⟩ (Or.inl rfl), fun g2 => fin 1 1 ⟨fun _ => g1, fun _ => rfl⟩ (Or.inr rfl) ⟨fun _ => ak_lsign_lt.1.mp g2, fun _ => rfl⟩ (Or.inr rfl)⟩
      · -- times
        have eo : op = 42 := by omega
        refine ⟨fun y => absurd eo y.1, fun _ => ?_, fun y => absurd y (by omega), fun y => absurd y (by omega), fun y => absurd y (by omega), fun y => absurd y (by omega), fun y => absurd y (by omega), trivial⟩
        have fin1 : (-9223372036854775808 ≤ w * z ∧ w * z < 9223372036854775808) → ak_W0 e 1 (d + 38) 285 ρ 423 [some (am_r 110), none, none, none, none, none, none, none, some (am_l (am_w64 (w * z))), none, none] [] h (ak_qv Q X) := fun g => by
          refine am_k285_423 ?_
          rcases R with ⟨_, a, b⟩ | ⟨a, _⟩
          · exact F1 _ a b
          · exact absurd g a
        have fin0 : ¬ (-9223372036854775808 ≤ w * z ∧ w * z < 9223372036854775808) → ak_W0 e 1 (d + 38) 285 ρ 497 [some (am_r 110), none, none, none, none, none, none, none, some (am_l (am_w64 (w * z))), none, some (am_i 0)] [] h (ak_qv Q X) := fun g => by
          rcases R with ⟨a, _⟩ | ⟨_, a⟩
          · exact absurd a g
          · exact F0 _ a
        have l412 : w ≠ 0 → (w = -1 → z ≠ -9223372036854775808) → ak_W0 e 1 (d + 38) 285 ρ 412 [some (am_r 110), none, none, none, some (am_l w), none, some (am_l z), none, some (am_l (am_w64 (w * z))), none, none] [] h (ak_qv Q X) := fun hw0 hw1 => by
          refine am_k285_412 ⟨hw0, fun g => fin0 ?_, fun g => fin1 ?_⟩
          · by_cases hm1 : w = -1
            · exfalso
              have hz1 := hw1 hm1
              refine g (ak_lsign0.mpr ?_)
              rw [hm1, show (-1 : Int) * z = -z by omega, show am_w64 (-z) = -z from am_w64_id (by omega) (by omega), show (-1 : Int) = -(1 : Int) from rfl, Int.tdiv_neg, Int.tdiv_one, Int.neg_neg]
              exact am_w64_id hz.1 hz.2
            · intro y
              rw [Int.mul_comm] at y
              refine g (ak_lsign0.mpr ?_)
              rw [Int.mul_comm w z]
              exact (ak_mul_back hz hw hw0 hm1).mpr y
          · by_cases hm1 : w = -1
            · have hz1 := hw1 hm1
              rw [hm1]
              omega
            · have g2 := ak_lsign0.mp g
              rw [Int.mul_comm w z] at g2 ⊢
              exact (ak_mul_back hz hw hw0 hm1).mp g2
        have l394 : w ≠ 0 → (w = -1 → z ≠ -9223372036854775808) → ak_W0 e 1 (d + 38) 285 ρ 394 [some (am_r 110), none, none, none, some (am_l w), none, some (am_l z), none, some (am_l (am_w64 (w * z))), none, none] [] h (ak_qv Q X) := fun hw0 hw1 => by
          refine am_k285_394 ⟨fun _ => l412 hw0 hw1, fun g => ⟨fun g2 => fin0 ?_, fun _ => l412 hw0 hw1⟩⟩
          rw [ak_lsign0.mp g, ak_lsign0.mp g2]; decide
        refine ⟨fun g => fin1 (by rw [ak_lsign0.mp g, Int.zero_mul]; decide), fun g => ⟨fun g2 => l394 (fun y => g (ak_lsign0.mpr y)) (fun y => absurd (ak_lsign0.mpr y) g2), fun g2 => ⟨fun g3 => fin0 (by rw [ak_lsign0.mp g2, ak_lsign0.mp g3]; decide), fun g3 => l394 (fun y => g (ak_lsign0.mpr y)) (fun _ y => g3 (ak_lsign0.mpr y))⟩⟩⟩
      · -- a quotient
        have eo : op = 47 := by omega
        have z0 : z ≠ 0 := by omega
        refine ⟨fun y => absurd eo y.2.2.2.1, fun y => absurd y (by omega), fun y => absurd y (by omega), fun y => absurd y (by omega), fun _ => ?_, fun y => absurd y (by omega), fun y => absurd y (by omega), trivial⟩
        have fin : (w ≠ -9223372036854775808 ∨ z ≠ -1) → ak_W0 e 1 (d + 38) 285 ρ 456 [some (am_r 110), none, none, none, some (am_l w), none, some (am_l z), none, none, none, none] [am_i 1] h (ak_qv Q X) := fun hh2 => by
          refine am_k285_456 ⟨fun y => absurd y (by decide), fun _ => ⟨z0, ?_⟩⟩
          rcases R with ⟨a, _⟩ | ⟨a, b, _⟩ | ⟨a, _, b, g⟩ | ⟨_, _, a, b⟩
          · exact absurd a z0
          · omega
          · refine F1 _ b (g.trans ?_)
            rw [a, show (-1 : Int) = -(1 : Int) from rfl, Int.tdiv_neg, Int.tdiv_one]
          · exact F1 _ a b
        refine ⟨fun g => fin (Or.inl (fun y => g (ak_lsign0.mpr y))), fun g => ⟨fun g2 => am_k285_456 ⟨fun _ => ?_, fun y => absurd rfl y⟩, fun g2 => fin (Or.inr (fun y => g2 (ak_lsign0.mpr y)))⟩⟩
        have g3 := ak_lsign0.mp g
        have g4 := ak_lsign0.mp g2
        rcases R with ⟨a, _⟩ | ⟨_, _, a⟩ | ⟨_, a, _⟩ | ⟨_, a, _⟩
        · exact absurd a z0
        · exact F0 _ a
        · exact absurd g3 a
        · exact absurd g4 a
      · -- a rest
        have eo : op = 37 := by omega
        have z0 : z ≠ 0 := by omega
        refine ⟨fun _ => ⟨fun g => ⟨z0, ?_⟩, fun g => ?_⟩, fun y => absurd y (by omega), fun y => absurd y (by omega), fun y => absurd y (by omega), fun y => absurd y (by omega), fun y => absurd y (by omega), fun y => absurd y (by omega), trivial⟩
        · rcases R with ⟨a, _⟩ | ⟨a, _⟩ | ⟨_, _, a, b⟩
          · exact absurd a z0
          · exact absurd (ak_lsign0.mpr a) g
          · exact F1 _ a b
        · have g3 := ak_lsign0.mp g
          rcases R with ⟨a, _⟩ | ⟨_, a, b⟩ | ⟨_, a, _⟩
          · exact absurd a z0
          · exact F1 _ a b
          · exact absurd g3 a
      · -- less
        have eo : op = 60 := by omega
        refine ⟨fun y => absurd eo y.2.2.2.2.1, fun y => absurd y (by omega), fun y => absurd y (by omega), fun y => absurd y (by omega), fun y => absurd y (by omega), fun _ => ⟨fun g => ?_, fun g => ?_⟩, fun y => absurd y (by omega), trivial⟩
        · have g2 := ak_lsign_lt.2.mp g
          rcases R with ⟨a, _⟩ | ⟨_, b⟩
          · omega
          · exact F1 _ hk0 b
        · have g2 := ak_lsign_lt.1.mp g
          rcases R with ⟨_, b⟩ | ⟨a, _⟩
          · exact F1 _ hk0 b
          · exact absurd g2 a
      · -- more
        have eo : op = 62 := by omega
        refine ⟨fun y => absurd eo y.2.2.2.2.2.1, fun y => absurd y (by omega), fun y => absurd y (by omega), fun y => absurd y (by omega), fun y => absurd y (by omega), fun y => absurd y (by omega), fun _ => ⟨fun g => ?_, fun g => ?_⟩, trivial⟩
        · have g2 := (ak_lsgn _ _).1.mp g
          rcases R with ⟨a, _⟩ | ⟨_, b⟩
          · omega
          · exact F1 _ hk0 b
        · have g2 := (ak_lsgn _ _).2.mp g
          rcases R with ⟨_, b⟩ | ⟨a, _⟩
          · exact F1 _ hk0 b
          · exact absurd g2 a
    have L106 : (op = 47 ∨ op = 37) → ak_W0 e 1 (d + 38) 285 ρ 106 [some (am_r 110), some (am_i op), none, none, some (am_l w), none, some (am_l z), none, none, none, none] [] h (ak_qv Q X) := fun hh => by
      refine am_k285_106 ⟨fun g => L119 [] (Or.inr (Or.inr (Or.inr (Or.inr (Or.inr ⟨hh, fun y => g (ak_lsign0.mpr y)⟩))))), fun g => ?_⟩
      have g3 := ak_lsign0.mp g
      have k5 : k = 5 := by
        rcases R with ⟨a, _⟩ | ⟨a, _⟩ | ⟨a, _⟩ | ⟨_, R⟩ | ⟨_, R⟩ | ⟨a, _⟩ | ⟨a, _⟩
        · omega
        · omega
        · omega
        · rcases R with ⟨_, a⟩ | ⟨a, _⟩ | ⟨a, _⟩ | ⟨a, _⟩
          · exact a
          · omega
          · omega
          · exact absurd g3 a
        · rcases R with ⟨_, a⟩ | ⟨a, _⟩ | ⟨a, _⟩
          · exact a
          · omega
          · exact absurd g3 a
        · omega
        · omega
      exact pk 5 k5 (by decide)
    refine ⟨fun y => L106 (Or.inl y), fun y => ⟨fun y2 => L119 [] ?_, fun y2 => L106 (Or.inr y2)⟩⟩
    rcases hop with ⟨a, _⟩ | ⟨a, _⟩ | ⟨a, _⟩ | ⟨a, _⟩ | ⟨a, _⟩ | ⟨a, _⟩ | ⟨a, _⟩ | ⟨a, _⟩
    · exact Or.inr (Or.inl a)
    · exact Or.inr (Or.inr (Or.inl a))
    · exact Or.inl a
    · exact absurd a y
    · exact absurd a y2
    · exact Or.inr (Or.inr (Or.inr (Or.inl a)))
    · exact Or.inr (Or.inr (Or.inr (Or.inr (Or.inl a))))
    · exact absurd a n4
end TWOM
