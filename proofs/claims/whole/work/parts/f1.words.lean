/-! the run: rooms and words -/
section WRD
variable {e : ak_X3} {d ρ1 ρ2 u n m r : Nat} {ρ : List Nat} {h hc hm : ak_S} {Q : ak_S → Prop} {X : Nat → ak_S → Prop} {s w x y : Int}
set_option maxRecDepth 100000 in
theorem ak_hs_all : ∀ j : Fin 400, (Int32.ofInt (j.1 : Int) >>> (Int32.ofInt 4 &&& 31)).toInt = ((j.1 / 16 : Nat) : Int) ∧ (Int32.ofInt (j.1 : Int) &&& Int32.ofInt 15).toInt = ((j.1 % 16 : Nat) : Int) := by decide +kernel
/-- the room k rooms out -/
def ak_out (h : ak_S) : Nat → Nat → Nat
  | 0, r => r
  | k + 1, r => ak_out h k (h.1 52 r).toNat
theorem am_s145 {Q : Int → ak_S → Prop} {hops slot : Nat} (hr : r < 560) (hh : hops < 25) (hs : slot < 12) (ok : ∀ k, k < hops → ak_out h k r < 560 ∧ 0 ≤ h.1 52 (ak_out h k r)) (q : Q ((12 * ak_out h hops r + slot : Nat) : Int) h) (hl : ak_out h hops r < 560) :
    ak_MI e 0 (d + 1) ρ 145 [am_r 49, am_i (r : Int), am_i ((16 * hops + slot : Nat) : Int)] h Q X := by
  obtain ⟨a1, a2⟩ := ak_hs_all ⟨16 * hops + slot, by omega⟩
  dsimp only at a1 a2
  rw [show (16 * hops + slot) / 16 = hops by omega] at a1
  rw [show (16 * hops + slot) % 16 = slot by omega] at a2
  have lp : ∀ (k r' : Nat), k ≤ hops → r' < 560 → (∀ j, j < k → ak_out h j r' < 560 ∧ 0 ≤ h.1 52 (ak_out h j r')) → ak_out h k r' = ak_out h hops r →
      ak_W0 e 0 d 145 ρ 7 [some (am_r 49), none, some (am_i ((16 * hops + slot : Nat) : Int)), some (am_i (r' : Int)), some (am_i (k : Int))] [] h (ak_qi Q X) := by
    intro k
    induction k with
    | zero =>
      intro r' _ hr' _ he
      have er : r' = ak_out h hops r := he
      refine am_k145_7 ⟨fun _ => ?_, fun g => absurd g (by decide)⟩
      rw [a2, show (if ((slot : Nat) : Int) < 11 then ((slot : Nat) : Int) else 11) = (slot : Int) from by split <;> omega, ak_w ((r' : Int) * 12) (by omega), ak_w _ (by omega), show (r' : Int) * 12 + (slot : Int) = ((12 * ak_out h hops r + slot : Nat) : Int) from by rw [← er]; omega]
      exact q
    | succ k ih =>
      intro r' hk hr' hok he
      obtain ⟨o1, o2⟩ := hok 0 (by omega)
      have o3 : 0 ≤ h.1 52 r' := o2
      refine am_k145_7 ⟨fun g => absurd g (by omega), fun _ => ⟨by omega, ?_⟩⟩
      rw [ak_natn, show am_w32 (((k + 1 : Nat) : Int) + (-1)) = (k : Int) from by rw [ak_w _ (by omega)]; omega]
      refine ⟨fun g => absurd g (by omega), fun _ => ⟨by omega, ?_⟩⟩
      have e2 : h.1 52 r' = (((h.1 52 r').toNat : Nat) : Int) := by omega
      rw [e2]
      refine ih (h.1 52 r').toNat (by omega) ?_ (fun j hj => hok (j + 1) (by omega)) he
      by_cases hk0 : k = 0
      · subst hk0
        have : ak_out h 1 r' = (h.1 52 r').toNat := rfl
        rw [← this, he]
        exact hl
      · exact (hok 1 (by omega)).1
  refine ak_MI_of (Nat.le_of_ble_eq_true rfl) (am_k145_0 ?_)
  rw [a1]
  exact lp hops r (Nat.le_refl _) hr ok rfl
/-- a word of a room set, on both sides -/
def ak_kwC (h : ak_S) (k : Nat) (s w : Int) : ak_S := (am_up h.1 50 k s, am_up h.2.1 51 k w, h.2.2)
def ak_kwM (h : ak_S) (k : Nat) (s w : Int) : ak_S := (am_up h.1 184 k s, am_up h.2.1 185 k w, h.2.2)
theorem am_s146 {hops slot : Nat} (hr : r < 560) (hh : hops < 25) (hs : slot < 12) (ok : ∀ k, k < hops → ak_out h k r < 560 ∧ 0 ≤ h.1 52 (ak_out h k r)) (hl : ak_out h hops r < 560) (q : Q (ak_kwC h (12 * ak_out h hops r + slot) s w)) :
    ak_MV e 0 (d + 2) ρ 146 [am_r 49, am_i (r : Int), am_i ((16 * hops + slot : Nat) : Int), am_i s, am_l w] h Q X := by
  refine ak_MV_of (Nat.le_of_ble_eq_true rfl) (am_k146_0 (am_s145 hr hh hs ok ⟨by omega, by omega, ?_⟩ hl))
  rw [ak_natn]
  exact q
theorem am_s274 {f slot : Nat} (hf : f < 564) (hs : slot < 12) (q : Q (ak_kwM h (12 * f + slot) s w)) : ak_MV e 1 (d + 1) ρ 274 [am_r 110, am_i (f : Int), am_i (slot : Int), am_i s, am_l w] h Q X := by
  refine ak_MV_of (Nat.le_of_ble_eq_true rfl) (am_k274_0 ?_)
  rw [show am_w32 (am_w32 (12 * (f : Int)) + (slot : Int)) = ((12 * f + slot : Nat) : Int) from by
    rw [ak_w (12 * (f : Int)) (by omega), ak_w _ (by omega)]
    omega, ak_natn]
  exact ⟨by omega, by omega, q⟩
/-- a block made -/
def ak_nbC (h : ak_S) (b l r : Nat) : ak_S := (am_up (am_up (am_up (am_up h.1 61 b (l : Int)) 62 b (r : Int)) 55 r 1) 49 14 ((b + 1 : Nat) : Int), h.2)
theorem am_s143 {Q : Int → ak_S → Prop} {b l : Nat} (hb : h.1 49 14 = (b : Int)) (hr : r < 560) (q1 : b < 500 → Q (b : Int) (ak_nbC h b l r)) (q0 : 500 ≤ b → Q (-1) h) : ak_MI e 0 (d + 1) ρ 143 [am_r 49, am_i (l : Int), am_i (r : Int)] h Q X := by
  refine ak_MI_of (Nat.le_of_ble_eq_true rfl) (am_k143_0 ?_)
  rw [hb]
  refine ⟨fun g => ?_, fun g => q0 (by omega)⟩
  rw [ak_natn, ak_natn, ak_wj (show b < 1000000 by omega), show am_w32 (((b + 1 : Nat) : Int) - 1) = (b : Int) from by rw [ak_w _ (by omega)]; omega]
  exact ⟨by omega, by omega, ⟨by omega, Or.inr rfl⟩, q1 (by omega)⟩
theorem am_s144 {Q : Int → ak_S → Prop} {b : Nat} (hb : h.1 49 14 = (b : Int)) (hb2 : b ≤ 500) (q1 : s = 3 → 0 ≤ w → w < (b : Int) → Q w h) (q0 : s ≠ 3 → Q (-1) h) (ok : s = 3 → 0 ≤ w ∧ w < (b : Int)) : ak_MI e 0 (d + 1) ρ 144 [am_r 49, am_i s, am_l w] h Q X := by
  refine ak_MI_of (Nat.le_of_ble_eq_true rfl) (am_k144_0 ⟨fun g => q0 g, fun g => ?_⟩)
  have o := ok g
  rw [hb]
  refine ⟨fun l => absurd (ak_lsign_lt.1.mp l) (by omega), fun _ => ⟨fun l => absurd (ak_lsign_lt.2.mp l) (by omega), fun _ => ?_⟩⟩
  rw [ak_w w (by omega)]
  exact q1 g o.1 o.2
end WRD
