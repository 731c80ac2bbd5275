/-! the run: a frame begins, the one's side -/
section BEGC
variable {e : ak_X3} {d ρ1 ρ2 u n m r many at' : Nat} {h h' : ak_S} {ar mt st hd H : Int} {X : Nat → ak_S → Prop}
/-- what has changed when a frame has begun: n free rooms left, r the room, at' the stack left, na arguments from at' + 1 on -/
def ak_bgC (n r many at' na : Nat) (ar ho mt st gd hd : Int) (h h' : ak_S) : Prop :=
  (h'.1 49 11 = (n : Int) ∧ h'.1 52 r = ar ∧ h'.1 53 r = ho ∧ h'.1 54 r = (many : Int) ∧ h'.1 55 r = 0) ∧ (∀ k, k < 12 → (k < na → h'.1 50 (12 * r + k) = h.1 108 (at' + 1 + k) ∧ h'.2.1 51 (12 * r + k) = h.2.1 109 (at' + 1 + k)) ∧ (na ≤ k → h'.1 50 (12 * r + k) = 0 ∧ h'.2.1 51 (12 * r + k) = 0)) ∧
  (h'.1 69 7 = ((many + 1 : Nat) : Int) ∧ h'.1 69 8 = h.1 69 8 + hd ∧ h'.1 32 10 = (at' : Int)) ∧ (h'.1 70 many = (r : Int) ∧ h'.1 71 many = mt ∧ h'.1 72 many = st ∧ h'.1 73 many = 0 ∧ h'.1 74 many = (at' : Int) ∧ h'.1 75 many = gd ∧ h'.1 76 many = hd) ∧
  (∀ q k, ¬ (q = 49 ∧ k = 11) → ¬ (52 ≤ q ∧ q ≤ 55 ∧ k = r) → ¬ (q = 50 ∧ 12 * r ≤ k ∧ k < 12 * r + 12) → ¬ (q = 69 ∧ (k = 7 ∨ k = 8)) → ¬ (70 ≤ q ∧ q ≤ 76 ∧ k = many) → ¬ (q = 32 ∧ k = 10) → h'.1 q k = h.1 q k) ∧ (∀ q k, ¬ (q = 51 ∧ 12 * r ≤ k ∧ k < 12 * r + 12) → h'.2.1 q k = h.2.1 q k) ∧ h'.2.2 = h.2.2
theorem am_s94 {na : Nat} {Q : Int → ak_S → Prop} (hu : u = 0 ∨ u = 1) (h7 : h.1 69 7 = (many : Int)) (hm60 : many ≤ 60) (h13 : h.1 32 13 = (na : Int)) (hna : na ≤ 4) (h10 : h.1 32 10 = ((at' + na + 1 : Nat) : Int)) (hat : at' + na + 1 < 12600) (har : ar < 560) (h8 : h.1 69 8 = H) (hH : 0 ≤ H ∧ H ≤ 60) (h16 : h.1 32 16 = hd) (hhd : hd = 0 ∨ hd = 1)
    (fr : many < 60 → h.1 49 11 = ((n + 1 : Nat) : Int) ∧ n < 560 ∧ h.1 60 n = (r : Int) ∧ r < 560) (q1 : many < 60 → ∀ h', ak_bgC n r many at' na ar (if ar < 0 then (r : Int) else h.1 53 ar.toNat) mt st (h.1 77 4) hd h h' → Q (r : Int) h') (q0 : many = 60 → Q (-1) (am_up h.1 32 11 3, h.2)) : ak_MI e 0 (d + 5) (ak_rc u ρ1 ρ2) 94 [am_r 32, am_i ar, am_i mt, am_i st] h Q X := by
  refine ak_MI_of (Nat.le_of_ble_eq_true rfl) (am_k94_0 hu ?_)
  rw [h7, h10, h13]
  rw [show am_w32 (am_w32 (((at' + na + 1 : Nat) : Int) - (na : Int)) - 1) = (at' : Int) from by
    rw [ak_w (((at' + na + 1 : Nat) : Int) - (na : Int)) (by omega), ak_w _ (by omega)]
    omega, show (if 0 < (at' : Int) then (at' : Int) else 0) = (at' : Int) from by split <;> omega]
  refine ⟨fun z => ⟨fun y => absurd y (by decide), fun _ => q0 (by omega)⟩, fun z => ?_⟩
  obtain ⟨f1, f2, f3, f4⟩ := fr (by omega)
  refine am_s140 (d := d + 1) f1 f2 f3 f4 har ⟨fun _ => ?_, fun y => absurd y (by omega)⟩
  generalize hho : (if ar < 0 then (r : Int) else h.1 53 ar.toNat) = ho at q1
  -- the room is there
  have T1 : ∀ q k, ¬ (q = 49 ∧ k = 11) → ¬ (52 ≤ q ∧ q ≤ 55 ∧ k = r) → ¬ (q = 50 ∧ 12 * r ≤ k ∧ k < 12 * r + 12) → (ak_tkC h n r (many : Int) ar ho).1 q k = h.1 q k := fun q k a b c => by
    unfold ak_tkC
    refine (ak_up_out1 (by omega)).trans ((ak_up_out (by omega)).trans ((ak_up_out (by omega)).trans ((ak_up_out (by omega)).trans ?_)))
    show (if q = 50 ∧ 12 * r ≤ k ∧ k < 12 * r + 12 then 0 else am_up h.1 49 11 (n : Int) q k) = _
    rw [if_neg c]
    exact ak_up_out a
  have T2 : ∀ q k, ¬ (q = 51 ∧ 12 * r ≤ k ∧ k < 12 * r + 12) → (ak_tkC h n r (many : Int) ar ho).2.1 q k = h.2.1 q k := fun q k a => if_neg a
  have T3 : ∀ k, k < 12 → (ak_tkC h n r (many : Int) ar ho).1 50 (12 * r + k) = 0 ∧ (ak_tkC h n r (many : Int) ar ho).2.1 51 (12 * r + k) = 0 := fun k hk => by
    refine ⟨?_, if_pos ⟨rfl, by omega, by omega⟩⟩
    unfold ak_tkC
    refine (ak_up_out1 (by omega)).trans ((ak_up_out (by omega)).trans ((ak_up_out (by omega)).trans ((ak_up_out (by omega)).trans (if_pos ⟨rfl, by omega, by omega⟩))))
  have T4 : (ak_tkC h n r (many : Int) ar ho).1 49 11 = (n : Int) ∧ (ak_tkC h n r (many : Int) ar ho).1 52 r = ar ∧ (ak_tkC h n r (many : Int) ar ho).1 53 r = ho ∧ (ak_tkC h n r (many : Int) ar ho).1 54 r = (many : Int) ∧ (ak_tkC h n r (many : Int) ar ho).1 55 r = 0 := by
    unfold ak_tkC ak_zR
    simp [am_up]
  have T5 : (ak_tkC h n r (many : Int) ar ho).2.2 = h.2.2 := rfl
  generalize ak_tkC h n r (many : Int) ar ho = hT at T1 T2 T3 T4 T5
  have lp : ∀ (b i : Nat) (h1 : ak_S), i + b = na → (∀ k, k < 12 → (k < i → h1.1 50 (12 * r + k) = h.1 108 (at' + 1 + k) ∧ h1.2.1 51 (12 * r + k) = h.2.1 109 (at' + 1 + k)) ∧ (i ≤ k → h1.1 50 (12 * r + k) = 0 ∧ h1.2.1 51 (12 * r + k) = 0)) → (∀ q k, ¬ (q = 50 ∧ 12 * r ≤ k ∧ k < 12 * r + 12) → h1.1 q k = hT.1 q k) → (∀ q k, ¬ (q = 51 ∧ 12 * r ≤ k ∧ k < 12 * r + 12) → h1.2.1 q k = hT.2.1 q k) → h1.2.2 = hT.2.2 →
      ak_W0 e 0 (d + 4) 94 (ak_rc u ρ1 ρ2) 65 [some (am_r 32), none, some (am_i mt), some (am_i st), some (am_i (at' : Int)), some (am_i (r : Int)), some (am_i (i : Int))] [] h1 (ak_qi Q X) := by
    intro b
    induction b with
    | zero =>
      intro i h1 hi w1 w2 w3 w4
      have : i = na := by omega
      subst this
      have O : ∀ q k, ¬ (q = 49 ∧ k = 11) → ¬ (52 ≤ q ∧ q ≤ 55 ∧ k = r) → ¬ (q = 50 ∧ 12 * r ≤ k ∧ k < 12 * r + 12) → h1.1 q k = h.1 q k := fun q k a b c => (w2 q k c).trans (T1 q k a b c)
      refine am_k94_65 hu ⟨fun _ => ?_, fun y => absurd y (by rw [O 32 13 (by omega) (by omega) (by omega), h13]; omega)⟩
      rw [O 77 4 (by omega) (by omega) (by omega), O 32 16 (by omega) (by omega) (by omega), h16]
      refine am_s49 (d := d + 3) (n := many) (H := H) ((ak_up_out1 (by omega)).trans ((O _ _ (by omega) (by omega) (by omega)).trans h7)) (by omega) hhd ((ak_up_out1 (by omega)).trans ((O _ _ (by omega) (by omega) (by omega)).trans h8)) hH ?_
      have P : ∀ q k, ¬ (70 ≤ q ∧ q ≤ 76 ∧ k = many) → ¬ (q = 69 ∧ (k = 7 ∨ k = 8)) → ¬ (q = 32 ∧ k = 10) → (ak_fpC (am_up h1.1 32 10 (at' : Int), h1.2) many (r : Int) mt st (at' : Int) (h.1 77 4) hd H).1 q k = h1.1 q k := fun q k a b c => by
        unfold ak_fpC
        exact (ak_up_out1 (by omega)).trans ((ak_up_out (by omega)).trans ((ak_up_out (by omega)).trans ((ak_up_out (by omega)).trans ((ak_up_out (by omega)).trans ((ak_up_out (by omega)).trans ((ak_up_out (by omega)).trans ((ak_up_out (by omega)).trans ((ak_up_out (by omega)).trans (ak_up_out1 c)))))))))
      have P1 : (ak_fpC (am_up h1.1 32 10 (at' : Int), h1.2) many (r : Int) mt st (at' : Int) (h.1 77 4) hd H).1 69 7 = ((many + 1 : Nat) : Int) ∧ (ak_fpC (am_up h1.1 32 10 (at' : Int), h1.2) many (r : Int) mt st (at' : Int) (h.1 77 4) hd H).1 69 8 = H + hd ∧ (ak_fpC (am_up h1.1 32 10 (at' : Int), h1.2) many (r : Int) mt st (at' : Int) (h.1 77 4) hd H).1 32 10 = (at' : Int) := by
        unfold ak_fpC
        simp [am_up]
      have P2 : (ak_fpC (am_up h1.1 32 10 (at' : Int), h1.2) many (r : Int) mt st (at' : Int) (h.1 77 4) hd H).1 70 many = (r : Int) ∧ (ak_fpC (am_up h1.1 32 10 (at' : Int), h1.2) many (r : Int) mt st (at' : Int) (h.1 77 4) hd H).1 71 many = mt ∧ (ak_fpC (am_up h1.1 32 10 (at' : Int), h1.2) many (r : Int) mt st (at' : Int) (h.1 77 4) hd H).1 72 many = st ∧ (ak_fpC (am_up h1.1 32 10 (at' : Int), h1.2) many (r : Int) mt st (at' : Int) (h.1 77 4) hd H).1 73 many = 0 ∧ (ak_fpC (am_up h1.1 32 10 (at' : Int), h1.2) many (r : Int) mt st (at' : Int) (h.1 77 4) hd H).1 74 many = (at' : Int) ∧ (ak_fpC (am_up h1.1 32 10 (at' : Int), h1.2) many (r : Int) mt st (at' : Int) (h.1 77 4) hd H).1 75 many = h.1 77 4 ∧ (ak_fpC (am_up h1.1 32 10 (at' : Int), h1.2) many (r : Int) mt st (at' : Int) (h.1 77 4) hd H).1 76 many = hd := by
        unfold ak_fpC
        simp [am_up]
      have P3 : (ak_fpC (am_up h1.1 32 10 (at' : Int), h1.2) many (r : Int) mt st (at' : Int) (h.1 77 4) hd H).2 = h1.2 := rfl
      generalize ak_fpC (am_up h1.1 32 10 (at' : Int), h1.2) many (r : Int) mt st (at' : Int) (h.1 77 4) hd H = h2 at P P1 P2 P3
      refine q1 (by omega) h2 ⟨⟨?_, ?_, ?_, ?_, ?_⟩, fun k hk => ?_, ⟨P1.1, by rw [P1.2.1, h8], P1.2.2⟩, P2, fun q k a b c a' b' c' => (P q k b' a' c').trans (O q k a b c), fun q k a => by rw [P3]; exact (w3 q k a).trans (T2 q k a), by rw [P3, w4, T5]⟩
      · rw [P _ _ (by omega) (by omega) (by omega), w2 _ _ (by omega)]; exact T4.1
      · rw [P _ _ (by omega) (by omega) (by omega), w2 _ _ (by omega)]; exact T4.2.1
      · rw [P _ _ (by omega) (by omega) (by omega), w2 _ _ (by omega)]; exact T4.2.2.1
      · rw [P _ _ (by omega) (by omega) (by omega), w2 _ _ (by omega)]; exact T4.2.2.2.1
      · rw [P _ _ (by omega) (by omega) (by omega), w2 _ _ (by omega)]; exact T4.2.2.2.2
      · rw [P _ _ (by omega) (by omega) (by omega), P3]; exact w1 k hk
    | succ b ih =>
      intro i h1 hi w1 w2 w3 w4
      have O : ∀ q k, ¬ (q = 49 ∧ k = 11) → ¬ (52 ≤ q ∧ q ≤ 55 ∧ k = r) → ¬ (q = 50 ∧ 12 * r ≤ k ∧ k < 12 * r + 12) → h1.1 q k = h.1 q k := fun q k a b c => (w2 q k c).trans (T1 q k a b c)
      refine am_k94_65 hu ⟨fun y => absurd y (by rw [O 32 13 (by omega) (by omega) (by omega), h13]; omega), fun _ => ?_⟩
      rw [show am_w32 (am_w32 ((at' : Int) + 1) + (i : Int)) = ((at' + 1 + i : Nat) : Int) from by
        rw [ak_w ((at' : Int) + 1) (by omega), ak_w _ (by omega)]
        omega, ak_natn, O 108 _ (by omega) (by omega) (by omega), w3 109 _ (by omega), T2 109 _ (by omega), show am_w32 ((i : Int) + 1) = ((i + 1 : Nat) : Int) from by rw [ak_w _ (by omega)]; omega]
      refine ⟨by omega, by omega, ?_⟩
      rw [show am_i (i : Int) = am_i ((16 * 0 + i : Nat) : Int) from by rw [show 16 * 0 + i = i by omega]]
      refine am_s146 (d := d + 2) (hops := 0) f4 (by decide) (by omega) (fun k hk => absurd hk (Nat.not_lt_zero _)) f4 ?_
      refine ih (i + 1) _ (by omega) (fun k hk => ⟨fun hk2 => ?_, fun hk2 => ?_⟩) (fun q k a => (ak_kwC_o (by show ¬ (q = 50 ∧ k = 12 * r + i); omega)).trans (w2 q k a)) (fun q k a => (ak_kwC_J (by show ¬ (q = 51 ∧ k = 12 * r + i); omega)).trans (w3 q k a)) w4
      · by_cases hki : k = i
        · subst hki
          exact ⟨ak_up_at1, show am_up h1.2.1 51 (12 * r + k) (h.2.1 109 (at' + 1 + k)) 51 (12 * r + k) = _ from ak_up_at⟩
        · rw [ak_kwC_o (by show ¬ (50 = 50 ∧ 12 * r + k = 12 * r + i); omega), ak_kwC_J (by show ¬ (51 = 51 ∧ 12 * r + k = 12 * r + i); omega)]
          exact (w1 k hk).1 (by omega)
      · rw [ak_kwC_o (by show ¬ (50 = 50 ∧ 12 * r + k = 12 * r + i); omega), ak_kwC_J (by show ¬ (51 = 51 ∧ 12 * r + k = 12 * r + i); omega)]
        exact (w1 k hk).2 (by omega)
  exact lp na 0 hT (by omega) (fun k hk => ⟨fun y => absurd y (Nat.not_lt_zero _), fun _ => T3 k hk⟩) (fun _ _ _ => rfl) (fun _ _ _ => rfl) rfl
end BEGC
