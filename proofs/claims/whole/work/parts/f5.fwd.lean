/-! the run: orders go forward; guards and frames of the one -/
section FWD
variable {e : ak_X3} {d n m : Nat} {ρ : List Nat} {h : ak_S} {Q : ak_S → Prop} {X : Nat → ak_S → Prop} {C M : Nat → Nat → Int} {T p tag k lt i a c : Nat} {x : Int}
theorem ak_T3_le (h : ak_T3 C M T p tag x k lt i a c) : a ≤ c := by
  refine h (fun _ _ _ _ _ a c => a ≤ c) (fun tag x k lt i a c h => ?_)
  unfold ak_Ph at h
  split at h
  · obtain ⟨y, hx, hb, h⟩ := h
    rcases h with h | h | h | h | h | ⟨h0, c1, j, ⟨hj, h1⟩, h2⟩ | h | ⟨h0, c1, n, j, H, h1, h2, h3, ⟨hj, hH, h4⟩, h5, h6, h7, h8, h9⟩ | ⟨h0, c0, c1, n, j, j2, H, ⟨hj, hH, h1⟩, h2, h3, h4, h5, h6, h7, h8, h9⟩ | ⟨h0, c0, c1, n, j, j2, H, ⟨hj, hH, h1⟩, h2, h3, h4, h5, h6, h7⟩ | ⟨h0, c0, c1, j, j2, H, ⟨hj, hH, h1⟩, h2, h3, h4⟩ | ⟨h0, c1, j, ⟨hj, h1⟩, h2, h3⟩ | ⟨h0, c1, l, j, G, h1, h2, h3, h4, h5, h6, h7, h8, ⟨hj, hG, h9⟩, h10, h11, h12⟩
    · omega
    · omega
    · omega
    · omega
    · omega
    · omega
    · omega
    · omega
    · omega
    · omega
    · omega
    · omega
    · omega
  · rcases h with h | ⟨y, k', c1, j, j2, h1, h2, ⟨hj, h3⟩, h4⟩
    · omega
    · omega
  · obtain ⟨hi, h⟩ := h
    rcases h with h | ⟨y, c1, j, j2, h1, h2, h3, ⟨hj, hj2, h4⟩, h5⟩
    · omega
    · omega
  · rcases h with h | ⟨y, i1, c1, h1, h2, h3, h4, h5, h6, h7, h8, h9, h10, h11, h12, h13, h14⟩
    · omega
    · omega
  · obtain ⟨y, hx, h⟩ := h
    unfold ak_RX ak_RX2 at h
    rcases h with ⟨h0, c1, ⟨j, H, h1, h2, h3⟩, h4⟩ | ⟨h0, c1, ⟨j, H, h1, h2, h3⟩, h4⟩ | ⟨h0, c1, ⟨j, H, h1, h2, h3⟩, h4⟩ | ⟨h0, c0, c1, ⟨j, j2, H, H2, g1, g2, g3, g4, g5⟩, h3⟩ | ⟨h0, c0, c1, ⟨j, j2, H, H2, g1, g2, g3, g4, g5⟩, h3⟩ | ⟨h0, c1, ⟨j, H, h1, h2, h3⟩, h4⟩ | ⟨h0, c1, ⟨j, H, h1, h2, h3⟩, h4⟩ | ⟨h0, c0, c1, ⟨j, j2, H, H2, g1, g2, g3, g4, g5⟩, h3⟩ | ⟨h0, c1, c2, j, j2, ⟨j', H, g1, g2, g3⟩, h2, ⟨hj, hj2, h3⟩, h4⟩ | ⟨h0, c1, c2, j, ⟨j', H, g1, g2, g3⟩, h2, h3, ⟨hj, h4⟩, h5⟩ | ⟨h0, c1, ⟨j, H, h1, h2, h3⟩, h4⟩ | ⟨h0, c1, ⟨j, H, h1, h2, h3⟩, h4⟩ | ⟨h0, c1, ⟨j, H, h1, h2, h3⟩, h4⟩ | ⟨h0, h1, h2, h3⟩ | ⟨h0, c1, c2, g, i0, j, h1, h2, h3, ⟨hl, hj, h4⟩, h5, h6, h7, h8, h9, h10⟩
    · omega
    · omega
    · omega
    · omega
    · omega
    · omega
    · omega
    · omega
    · skip
      rcases h4 with h4 | ⟨h4, h5, h6, h7⟩
      · omega
      · omega
    · omega
    · omega
    · omega
    · omega
    · rcases h3 with h3 | ⟨c1, ⟨j, H, g1, g2, g3⟩, h4⟩
      · omega
      · omega
    · skip
      rcases h10 with h10 | ⟨h10, h11, c3, h12, h13⟩
      · omega
      · omega
/-- guards of the one -/
def ak_gpC (h : ak_S) (n : Nat) (g fr : Int) : ak_S := (am_up (am_up (am_up (am_up (am_up h.1 78 n 0) 79 n g) 80 n fr) 81 n (-1)) 77 4 ((n + 1 : Nat) : Int), h.2)
theorem am_s53 {g fr : Int} (hn : h.1 77 4 = (n : Int)) (hn2 : n < 1260) (q : Q (ak_gpC h n g fr)) : ak_MV e 0 (d + 1) ρ 53 [am_r 77, am_i g, am_i fr] h Q X := by
  refine ak_MV_of (Nat.le_of_ble_eq_true rfl) (am_k53_0 ?_)
  rw [hn, ak_natn, ak_wj (show n < 1000000 by omega)]
  exact ⟨fun z => absurd z (by omega), fun _ => ⟨by omega, by omega, by omega, by omega, q⟩⟩
/-- what goes on -/
def ak_goS (h : ak_S) (a b s w f : Int) : ak_S := (am_up (am_up (am_up (am_up h.1 77 10 a) 77 11 b) 77 12 s) 77 14 f, am_up h.2.1 77 13 w, h.2.2)
theorem am_s54 {a b s w f : Int} (q : Q (ak_goS h a b s w f)) : ak_MV e 0 (d + 1) ρ 54 [am_r 77, am_i a, am_i b, am_i s, am_l w, am_i f] h Q X := ak_MV_of (Nat.le_of_ble_eq_true rfl) (am_k54_0 q)
def ak_beC (h : ak_S) (t : Nat) : ak_S := (am_up (am_up (am_up (am_up (am_up (am_up h.1 78 t 2) 82 t (h.1 77 10)) 83 t (h.1 77 11)) 84 t (h.1 77 12)) 86 t (h.1 77 14)) 77 10 0, am_up h.2.1 85 t (h.2.1 77 13), h.2.2)
theorem am_s55 (hn : h.1 77 4 = ((n + 1 : Nat) : Int)) (hn2 : n < 1260) (q : Q (ak_beC h n)) : ak_MV e 0 (d + 1) ρ 55 [am_r 77] h Q X := by
  refine ak_MV_of (Nat.le_of_ble_eq_true rfl) (am_k55_0 ?_)
  rw [hn, show am_w32 (((n + 1 : Nat) : Int) - 1) = (n : Int) from by rw [ak_w _ (by omega)]; omega, ak_natn]
  have b : 0 ≤ (n : Int) ∧ (n : Int) < 1260 := by omega
  exact ⟨fun z => absurd z (by omega), fun _ => ⟨b, b, b, b, b, b, q⟩⟩
def ak_eeC (h : ak_S) (t : Nat) : ak_S := (am_up (ak_goS h (h.1 82 t) (h.1 83 t) (h.1 84 t) (h.2.1 85 t) (h.1 86 t)).1 77 4 (t : Int), (ak_goS h (h.1 82 t) (h.1 83 t) (h.1 84 t) (h.2.1 85 t) (h.1 86 t)).2)
theorem am_s56 (hn : h.1 77 4 = ((n + 1 : Nat) : Int)) (hn2 : n < 1260) (q : Q (ak_eeC h n)) : ak_MV e 0 (d + 2) ρ 56 [am_r 77] h Q X := by
  refine ak_MV_of (Nat.le_of_ble_eq_true rfl) (am_k56_0 ?_)
  have e1 : am_w32 (((n + 1 : Nat) : Int) - 1) = (n : Int) := by rw [ak_w _ (by omega)]; omega
  rw [hn, e1, ak_natn]
  have b : 0 ≤ (n : Int) ∧ (n : Int) < 1260 := by omega
  refine ⟨fun z => absurd z (by omega), fun _ => ⟨b, b, b, b, b, am_s54 ?_⟩⟩
  have e2 : (ak_goS h (h.1 82 n) (h.1 83 n) (h.1 84 n) (h.2.1 85 n) (h.1 86 n)).1 77 4 = ((n + 1 : Nat) : Int) := by
    unfold ak_goS
    simp [am_up]
    omega
  rw [e2, e1]
  exact q
/-- frames of the one -/
def ak_fpC (h : ak_S) (n : Nat) (r mt st bs gd hd H : Int) : ak_S := (am_up (am_up (am_up (am_up (am_up (am_up (am_up (am_up (am_up h.1 70 n r) 71 n mt) 72 n st) 73 n 0) 74 n bs) 75 n gd) 76 n hd) 69 8 (H + hd)) 69 7 ((n + 1 : Nat) : Int), h.2)
theorem am_s49 {r mt st bs gd hd H : Int} (hn : h.1 69 7 = (n : Int)) (hn2 : n < 60) (hd2 : hd = 0 ∨ hd = 1) (hH : h.1 69 8 = H) (hH2 : 0 ≤ H ∧ H ≤ 60) (q : Q (ak_fpC h n r mt st bs gd hd H)) : ak_MV e 0 (d + 1) ρ 49 [am_r 69, am_i r, am_i mt, am_i st, am_i bs, am_i gd, am_i hd] h Q X := by
  refine ak_MV_of (Nat.le_of_ble_eq_true rfl) (am_k49_0 ?_)
  rw [hn, hH, ak_natn, ak_wj (show n < 1000000 by omega), ak_w (H + 0) (by omega), ak_w (H + 1) (by omega)]
  have b : 0 ≤ (n : Int) ∧ (n : Int) < 60 := by omega
  refine ⟨fun _ => ⟨b, b, b, b, b, b, ⟨b, hd2⟩, fun g => ?_, fun g => ?_⟩, fun z => absurd z (by omega)⟩
  · subst g; exact q
  · have : hd = 1 := by omega
    subst this; exact q
def ak_foC (h : ak_S) (n : Nat) (H : Int) : ak_S := (am_up (am_up h.1 69 7 (n : Int)) 69 8 (H - h.1 76 n), h.2)
theorem am_s50 {H : Int} (hn : h.1 69 7 = ((n + 1 : Nat) : Int)) (hn2 : n < 60) (hd2 : h.1 76 n = 0 ∨ h.1 76 n = 1) (hH : h.1 69 8 = H) (hH2 : 0 ≤ H ∧ H ≤ 60) (q : Q (ak_foC h n H)) : ak_MV e 0 (d + 1) ρ 50 [am_r 69] h Q X := by
  refine ak_MV_of (Nat.le_of_ble_eq_true rfl) (am_k50_0 ?_)
  unfold ak_foC at q
  rw [hn, hH, show am_w32 (((n + 1 : Nat) : Int) - 1) = (n : Int) from by rw [ak_w _ (by omega)]; omega, ak_natn, ak_w (H - 0) (by omega), ak_w (H - 1) (by omega)]
  refine ⟨fun z => absurd z (by omega), fun _ => ⟨by omega, fun g => ?_, fun g => ?_⟩⟩
  · rw [g] at q; exact q
  · rw [show h.1 76 n = 1 by omega] at q; exact q
end FWD
