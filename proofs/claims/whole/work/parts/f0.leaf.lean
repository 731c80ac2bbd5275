/-! the run: the smallest methods of both -/
section LEAF
variable {e : ak_X3} {d ρ1 ρ2 u n m : Nat} {ρ : List Nat} {h : ak_S} {Q : ak_S → Prop} {X : Nat → ak_S → Prop} {s w x y : Int}
/-- a value put on the stack -/
def ak_psC (h : ak_S) (n : Nat) (s w : Int) : ak_S := (am_up (am_up h.1 108 n s) 32 10 ((n + 1 : Nat) : Int), am_up h.2.1 109 n w, h.2.2)
def ak_psM (h : ak_S) (n : Nat) (s w : Int) : ak_S := (am_up (am_up h.1 199 n s) 110 127 ((n + 1 : Nat) : Int), am_up h.2.1 200 n w, h.2.2)
def ak_szC (h : ak_S) (n : Nat) : ak_S := (am_up h.1 32 10 (n : Int), h.2)
theorem am_s73 (hu : u = 0 ∨ u = 1) (hn : h.1 32 10 = (n : Int)) (hn2 : n < 12600) (q : Q (ak_psC h n s w)) : ak_MV e 0 (d + 1) [ak_T u, ρ1, ρ2, ak_T u, ak_T u + 1] 73 [am_r 32, am_i s, am_l w] h Q X := by
  refine ak_MV_of (Nat.le_of_ble_eq_true rfl) (am_k73_0 hu ?_)
  rw [hn, ak_natn, ak_wj (show n < 1000000 by omega)]
  exact ⟨fun g => absurd g (by omega), fun _ => ⟨by omega, by omega, q⟩⟩
theorem am_s265 (hn : h.1 110 127 = (n : Int)) (hn2 : n < 20000) (q : Q (ak_psM h n s w)) : ak_MV e 1 (d + 1) ρ 265 [am_r 110, am_i s, am_l w] h Q X := by
  refine ak_MV_of (Nat.le_of_ble_eq_true rfl) (am_k265_0 ?_)
  rw [hn, ak_natn, ak_wj (show n < 1000000 by omega)]
  exact ⟨by omega, by omega, q⟩
theorem am_s74 {Q : Int → ak_S → Prop} (hu : u = 0 ∨ u = 1) (hn : h.1 32 10 = ((n + 1 : Nat) : Int)) (hn2 : n < 12600) (q : Q (n : Int) (ak_szC h n)) : ak_MI e 0 (d + 1) [ak_T u, ρ1, ρ2, ak_T u, ak_T u + 1] 74 [am_r 32] h Q X := by
  refine ak_MI_of (Nat.le_of_ble_eq_true rfl) (am_k74_0 hu ?_)
  rw [hn, show am_w32 (((n + 1 : Nat) : Int) - 1) = (n : Int) from by rw [ak_w _ (by omega)]; omega]
  exact ⟨fun g => absurd g (by omega), fun _ => q⟩
/-- is a value true -/
def ak_tr (s w : Int) : Bool := decide (s ≠ 0) && !(decide (s = 1) && decide (w = 0))
theorem ak_tr_iff : ak_tr s w = true ↔ s ≠ 0 ∧ ¬ (s = 1 ∧ w = 0) := by
  unfold ak_tr
  by_cases h1 : s = 0 <;> by_cases h2 : s = 1 <;> by_cases h3 : w = 0 <;> simp [h1, h2, h3]
theorem am_s75 {Q : Int → ak_S → Prop} (hu : u = 0 ∨ u = 1) (hn : n < 12600) (h0 : 0 ≤ h.1 108 n) (q1 : ak_tr (h.1 108 n) (h.2.1 109 n) = true → Q 1 h) (q0 : ak_tr (h.1 108 n) (h.2.1 109 n) ≠ true → Q 0 h) : ak_MI e 0 (d + 1) [ak_T u, ρ1, ρ2, ak_T u, ak_T u + 1] 75 [am_r 32, am_i (n : Int)] h Q X := by
  rw [ak_tr_iff] at q1
  rw [Ne, ak_tr_iff] at q0
  refine ak_MI_of (Nat.le_of_ble_eq_true rfl) (am_k75_0 hu ?_)
  rw [ak_natn]
  refine ⟨by omega, fun g => ⟨Or.inr rfl, q1 (by omega)⟩, fun g => ⟨by omega, fun g2 => ⟨Or.inl rfl, q0 (by omega)⟩, fun g2 => ⟨by omega, fun g3 => ⟨Or.inl rfl, q0 (fun z => z.2 ⟨g2, ak_lsign0.mp g3⟩)⟩, fun g3 => ⟨Or.inr rfl, q1 ⟨by omega, fun z => g3 (ak_lsign0.mpr z.2)⟩⟩⟩⟩⟩
theorem am_s292 {Q : Int → ak_S → Prop} (q1 : ak_tr s w = true → Q 1 h) (q0 : ak_tr s w ≠ true → Q 0 h) : ak_MI e 1 (d + 1) ρ 292 [am_i s, am_l w] h Q X := by
  rw [ak_tr_iff] at q1
  rw [Ne, ak_tr_iff] at q0
  exact ak_MI_of (Nat.le_of_ble_eq_true rfl) (am_k292_0 ⟨fun g => ⟨Or.inl rfl, q0 (fun z => z.1 g)⟩, fun g => ⟨fun g2 => ⟨Or.inr rfl, q1 ⟨g, fun z => g2 z.1⟩⟩, fun g2 => ⟨fun g3 => ⟨Or.inl rfl, q0 (fun z => z.2 ⟨g2, ak_lsign0.mp g3⟩)⟩, fun g3 => ⟨Or.inr rfl, q1 ⟨g, fun z => g3 (ak_lsign0.mpr z.2)⟩⟩⟩⟩⟩)
/-- a step -/
theorem ak_wl {k : Int} (h : 0 ≤ k ∧ k < 4611686018427387904) : am_w64 (k + 1) = k + 1 := am_w64_id (by omega) (by omega)
theorem am_s76 {Q : Int → ak_S → Prop} (hu : u = 0 ∨ u = 1) (hn : h.2.1 64 2 = (n : Int)) (hn2 : n ≤ 4000) (q1 : n < 4000 → Q 1 (h.1, am_up h.2.1 64 2 ((n + 1 : Nat) : Int), h.2.2)) (q0 : n = 4000 → Q 0 (am_up h.1 32 11 2, h.2)) : ak_MI e 0 (d + 1) [ak_T u, ρ1, ρ2, ak_T u, ak_T u + 1] 76 [am_r 32] h Q X := by
  refine ak_MI_of (Nat.le_of_ble_eq_true rfl) (am_k76_0 hu ?_)
  rw [hn, ak_wl (show 0 ≤ (n : Int) ∧ (n : Int) < 4611686018427387904 by omega)]
  refine ⟨by decide, fun g => ⟨by decide, by decide, Or.inr rfl, q1 (by have := ak_lsign_lt.1.mp g; omega)⟩, fun g => ⟨Or.inl rfl, q0 (by have := ak_lsign_lt.2.mp g; omega)⟩⟩
theorem am_s267 (hn : h.1 110 104 = (n : Int)) (hn2 : n ≤ 4000) (q1 : n < 4000 → Q (am_up h.1 110 104 ((n + 1 : Nat) : Int), h.2)) (q0 : n = 4000 → Q (am_up h.1 110 105 2, h.2)) : ak_MV e 1 (d + 1) ρ 267 [am_r 110] h Q X := by
  refine ak_MV_of (Nat.le_of_ble_eq_true rfl) (am_k267_0 ?_)
  rw [hn, ak_wj (show n < 1000000 by omega)]
  exact ⟨fun g => q1 (by omega), fun g => q0 (by omega)⟩
/-- a job for later -/
def ak_jbM (h : ak_S) (n : Nat) (a b c f : Int) : ak_S := (am_up (am_up (am_up (am_up (am_up h.1 201 n a) 202 n b) 203 n c) 204 n f) 110 132 ((n + 1 : Nat) : Int), h.2)
theorem am_s266 {a b c f : Int} (hn : h.1 110 132 = (n : Int)) (hn2 : n < 370000) (q : Q (ak_jbM h n a b c f)) : ak_MV e 1 (d + 1) ρ 266 [am_r 110, am_i a, am_i b, am_i c, am_i f] h Q X := by
  refine ak_MV_of (Nat.le_of_ble_eq_true rfl) (am_k266_0 ?_)
  rw [hn, ak_natn, ak_wj (show n < 1000000 by omega)]
  exact ⟨by omega, by omega, by omega, by omega, q⟩
/-- the value C at the last place below n where P is v, -1 for none -/
def ak_lst (P C : Nat → Int) (v : Int) : Nat → Int
  | 0 => -1
  | n + 1 => if P n = v then C n else ak_lst P C v n
theorem am_s57 {Q : Int → ak_S → Prop} (hn : h.1 77 4 = (n : Int)) (hn2 : n ≤ 1260) (q : Q (ak_lst (h.1 78) (h.1 81) 1 n) h) : ak_MI e 0 (d + 1) ρ 57 [am_r 77] h Q X := by
  have lp : ∀ (k : Nat), k ≤ n → ak_lst (h.1 78) (h.1 81) 1 k = ak_lst (h.1 78) (h.1 81) 1 n → ak_W0 e 0 d 57 ρ 7 [some (am_r 77), some (am_i ((k : Int) - 1))] [] h (ak_qi Q X) := by
    intro k
    induction k with
    | zero =>
      intro _ he
      rw [← he] at q
      exact am_k57_7 ⟨fun _ => q, fun g => absurd g (by decide)⟩
    | succ k ih =>
      intro hk he
      refine am_k57_7 ⟨fun g => absurd g (by omega), fun _ => ?_⟩
      rw [show (((k + 1 : Nat) : Int) - 1) = (k : Int) by omega, ak_natn, show am_w32 ((k : Int) + (-1)) = (k : Int) - 1 from by rw [ak_w _ (by omega)]; omega]
      refine ⟨by omega, fun g => ih (by omega) ?_, fun g => ⟨by omega, ?_⟩⟩
      · rw [← he]
        unfold ak_lst
        rw [if_neg g]
        cases k <;> rfl
      · rw [← he] at q
        unfold ak_lst at q
        rw [if_pos g] at q
        exact q
  refine ak_MI_of (Nat.le_of_ble_eq_true rfl) (am_k57_0 ?_)
  rw [hn, ak_w _ (by omega)]
  exact lp n (Nat.le_refl _) rfl
theorem am_s268 {Q : Int → ak_S → Prop} (hn : h.1 110 132 = (n : Int)) (hn2 : n ≤ 370000) (q : Q (ak_lst (h.1 201) (h.1 203) 10 n) h) : ak_MI e 1 (d + 1) ρ 268 [am_r 110] h Q X := by
  have lp : ∀ (k : Nat), k ≤ n → ak_lst (h.1 201) (h.1 203) 10 k = ak_lst (h.1 201) (h.1 203) 10 n → ak_W0 e 1 d 268 ρ 7 [some (am_r 110), some (am_i ((k : Int) - 1))] [] h (ak_qi Q X) := by
    intro k
    induction k with
    | zero =>
      intro _ he
      rw [← he] at q
      exact am_k268_7 ⟨fun _ => q, fun g => absurd g (by decide)⟩
    | succ k ih =>
      intro hk he
      refine am_k268_7 ⟨fun g => absurd g (by omega), fun _ => ?_⟩
      rw [show (((k + 1 : Nat) : Int) - 1) = (k : Int) by omega, ak_natn, show am_w32 ((k : Int) + (-1)) = (k : Int) - 1 from by rw [ak_w _ (by omega)]; omega]
      refine ⟨by omega, fun g => ih (by omega) ?_, fun g => ⟨by omega, ?_⟩⟩
      · rw [← he]
        unfold ak_lst
        rw [if_neg g]
        cases k <;> rfl
      · rw [← he] at q
        unfold ak_lst at q
        rw [if_pos g] at q
        exact q
  refine ak_MI_of (Nat.le_of_ble_eq_true rfl) (am_k268_0 ?_)
  rw [hn, ak_w _ (by omega)]
  exact lp n (Nat.le_refl _) rfl
theorem am_s280 {Q : Int → ak_S → Prop} (q : Q (if s = 2 then am_w32 w else if s = 1 then 1 else if s = 3 then 2 else 3) h) : ak_MI e 1 (d + 1) ρ 280 [am_r 110, am_i s, am_l w] h Q X := by
  refine ak_MI_of (Nat.le_of_ble_eq_true rfl) (am_k280_0 ⟨fun g => ?_, fun g => ?_⟩)
  · rw [if_neg g] at q
    refine ⟨fun g1 => ?_, fun g1 => ?_⟩
    · rw [if_neg g1] at q
      exact ⟨fun g2 => by rw [if_neg g2] at q; exact q, fun g2 => by rw [if_pos g2] at q; exact q⟩
    · rw [if_pos g1] at q; exact q
  · rw [if_pos g] at q; exact q
/-- what replaces the two values on top -/
theorem am_s286 (hn : h.1 110 127 = ((n + 2 : Nat) : Int)) (hn2 : n < 19000) (q : Q (am_up (am_up h.1 110 127 ((n + 1 : Nat) : Int)) 199 n 1, am_up h.2.1 200 n w, h.2.2)) : ak_MV e 1 (d + 1) ρ 286 [am_r 110, am_l w] h Q X := by
  refine ak_MV_of (Nat.le_of_ble_eq_true rfl) (am_k286_0 ?_)
  rw [hn, show am_w32 (((n + 2 : Nat) : Int) - 1) = ((n + 1 : Nat) : Int) from by rw [ak_w _ (by omega)]; omega, show am_w32 (((n + 1 : Nat) : Int) - 1) = (n : Int) from by rw [ak_w _ (by omega)]; omega, ak_natn]
  exact ⟨by omega, by omega, q⟩
end LEAF
