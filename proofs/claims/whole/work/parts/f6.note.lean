/-! the run: what is told of it -/
section NOT
variable {e : ak_X3} {d n m : Nat} {ρ : List Nat} {h hc hm hm' : ak_S} {Q : ak_S → Prop} {X : Nat → ak_S → Prop} {s w p c k mt : Int}
def ak_nwr (h : ak_S) (n : Nat) (s w : Int) : ak_S := (h.1, am_up (if n < 300 then am_up (am_up h.2.1 65 (2 * n) s) 65 (2 * n + 1) w else h.2.1) 64 5 ((n + 1 : Nat) : Int), h.2.2)
theorem am_s65 (hn : h.2.1 64 5 = (n : Int)) (hn2 : n < 2000000000) (q : Q (ak_nwr h n s w)) : ak_MV e 0 (d + 1) ρ 65 [am_r 63, am_i s, am_l w] h Q X := by
  refine ak_MV_of (Nat.le_of_ble_eq_true rfl) (am_k65_0 ?_)
  unfold ak_nwr at q
  rw [hn, ak_wl (show 0 ≤ (n : Int) ∧ (n : Int) < 4611686018427387904 by omega)]
  refine ⟨by decide, fun g => ⟨by decide, by decide, ?_⟩, fun g => ?_⟩
  · have l := ak_lsign_lt.2.mp g
    rw [if_neg (by omega)] at q
    exact q
  · have l := ak_lsign_lt.1.mp g
    rw [if_pos (by omega)] at q
    rw [show am_w32 (am_w32 (n : Int) * 2) = ((2 * n : Nat) : Int) from by rw [ak_w (n : Int) (by omega), ak_w _ (by omega)]; omega, show am_w32 (((2 * n : Nat) : Int) + 1) = ((2 * n + 1 : Nat) : Int) from by rw [ak_w _ (by omega)]; omega, ak_natn, ak_natn]
    exact ⟨by decide, by omega, by omega, by decide, by decide, q⟩
def ak_nbg (h : ak_S) (n m : Nat) (s w p : Int) : ak_S := (am_up h.1 68 m (am_w32 (h.1 68 m + 1)), am_up (if n < 300 then am_up (am_up (am_up (am_up h.2.1 66 (4 * n) (m : Int)) 66 (4 * n + 1) s) 66 (4 * n + 2) w) 66 (4 * n + 3) p else h.2.1) 64 6 ((n + 1 : Nat) : Int), h.2.2)
theorem am_s66 (hn : h.2.1 64 6 = (n : Int)) (hn2 : n < 2000000000) (hm2 : m < 40) (q : Q (ak_nbg h n m s w p)) : ak_MV e 0 (d + 1) ρ 66 [am_r 63, am_i (m : Int), am_i s, am_l w, am_i p] h Q X := by
  refine ak_MV_of (Nat.le_of_ble_eq_true rfl) (am_k66_0 ?_)
  unfold ak_nbg at q
  rw [hn]
  have hn3 : 0 ≤ (n : Int) ∧ (n : Int) < 4611686018427387904 := by omega
  have b40 : 0 ≤ (m : Int) ∧ (m : Int) < 40 := by omega
  refine ⟨by decide, fun g => am_k66_68 ?_, fun g => ?_⟩
  · have l := ak_lsign_lt.2.mp g
    rw [if_neg (by omega)] at q
    rw [hn, ak_wl hn3, ak_natn]
    exact ⟨by decide, by decide, b40, b40, q⟩
  · have l := ak_lsign_lt.1.mp g
    rw [if_pos (by omega)] at q
    rw [show am_w32 (am_w32 (n : Int) * 4) = ((4 * n : Nat) : Int) from by rw [ak_w (n : Int) (by omega), ak_w _ (by omega)]; omega, show am_w32 (((4 * n : Nat) : Int) + 1) = ((4 * n + 1 : Nat) : Int) from by rw [ak_w _ (by omega)]; omega, show am_w32 (((4 * n : Nat) : Int) + 2) = ((4 * n + 2 : Nat) : Int) from by rw [ak_w _ (by omega)]; omega, show am_w32 (((4 * n : Nat) : Int) + 3) = ((4 * n + 3 : Nat) : Int) from by rw [ak_w _ (by omega)]; omega, ak_natn, ak_natn, ak_natn, ak_natn]
    refine ⟨by decide, by omega, by omega, by omega, by omega, am_k66_68 ?_⟩
    dsimp only
    rw [show am_up (am_up (am_up (am_up h.2.1 66 (4 * n) (m : Int)) 66 (4 * n + 1) s) 66 (4 * n + 2) w) 66 (4 * n + 3) p 64 6 = (n : Int) from (ak_up_out (by omega)).trans ((ak_up_out (by omega)).trans ((ak_up_out (by omega)).trans ((ak_up_out (by omega)).trans hn))), ak_wl hn3, ak_natn]
    exact ⟨by decide, by decide, b40, b40, q⟩
def ak_nfl (h : ak_S) (n : Nat) (k s w mt p c : Int) : ak_S := (h.1, am_up (if n < 64 then am_up (am_up (am_up (am_up (am_up (am_up h.2.1 67 (6 * n) k) 67 (6 * n + 1) s) 67 (6 * n + 2) w) 67 (6 * n + 3) mt) 67 (6 * n + 4) p) 67 (6 * n + 5) c else h.2.1) 64 4 ((n + 1 : Nat) : Int), h.2.2)
theorem am_s67 {Q : Int → ak_S → Prop} (hn : h.2.1 64 4 = (n : Int)) (hn2 : n < 2000000000) (q : Q (n : Int) (ak_nfl h n k s w mt p c)) : ak_MI e 0 (d + 1) ρ 67 [am_r 63, am_i k, am_i s, am_l w, am_i mt, am_i p, am_i c] h Q X := by
  refine ak_MI_of (Nat.le_of_ble_eq_true rfl) (am_k67_0 ?_)
  unfold ak_nfl at q
  rw [hn]
  have hn3 : 0 ≤ (n : Int) ∧ (n : Int) < 4611686018427387904 := by omega
  have en : am_w32 (am_w32 ((n : Int) + 1) - 1) = (n : Int) := by rw [ak_w ((n : Int) + 1) (by omega), ak_w _ (by omega)]; omega
  refine ⟨by decide, fun g => am_k67_91 ?_, fun g => ?_⟩
  · have l := ak_lsign_lt.2.mp g
    rw [if_neg (by omega)] at q
    rw [hn, ak_wl hn3, en]
    exact ⟨by decide, by decide, by decide, q⟩
  · have l := ak_lsign_lt.1.mp g
    rw [if_pos (by omega)] at q
    rw [show am_w32 (am_w32 (n : Int) * 6) = ((6 * n : Nat) : Int) from by rw [ak_w (n : Int) (by omega), ak_w _ (by omega)]; omega, show am_w32 (((6 * n : Nat) : Int) + 1) = ((6 * n + 1 : Nat) : Int) from by rw [ak_w _ (by omega)]; omega, show am_w32 (((6 * n : Nat) : Int) + 2) = ((6 * n + 2 : Nat) : Int) from by rw [ak_w _ (by omega)]; omega, show am_w32 (((6 * n : Nat) : Int) + 3) = ((6 * n + 3 : Nat) : Int) from by rw [ak_w _ (by omega)]; omega, show am_w32 (((6 * n : Nat) : Int) + 4) = ((6 * n + 4 : Nat) : Int) from by rw [ak_w _ (by omega)]; omega, show am_w32 (((6 * n : Nat) : Int) + 5) = ((6 * n + 5 : Nat) : Int) from by rw [ak_w _ (by omega)]; omega, ak_natn, ak_natn, ak_natn, ak_natn, ak_natn, ak_natn]
    refine ⟨by decide, by omega, by omega, by omega, by omega, by omega, by omega, am_k67_91 ?_⟩
    dsimp only
    rw [show am_up (am_up (am_up (am_up (am_up (am_up h.2.1 67 (6 * n) k) 67 (6 * n + 1) s) 67 (6 * n + 2) w) 67 (6 * n + 3) mt) 67 (6 * n + 4) p) 67 (6 * n + 5) c 64 4 = (n : Int) from (ak_up_out (by omega)).trans ((ak_up_out (by omega)).trans ((ak_up_out (by omega)).trans ((ak_up_out (by omega)).trans ((ak_up_out (by omega)).trans ((ak_up_out (by omega)).trans hn))))), ak_wl hn3, en]
    exact ⟨by decide, by decide, by decide, q⟩
end NOT
