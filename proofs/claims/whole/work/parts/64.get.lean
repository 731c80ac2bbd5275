/-! what a run gave, to be used later -/
section GET
variable {e : ak_X3} {r d j : Nat} {ρ : List Nat} {ar : List am_V} {h : ak_S}
theorem ak_MI_get {Q : Int → ak_S → Prop} (w : ak_MI e r d ρ j ar h Q ak_F) : ∃ v h', Q v h' ∧ ∀ (Q' : Int → ak_S → Prop) (X' : Nat → ak_S → Prop), Q' v h' → ak_MI e r d ρ j ar h Q' X' := by
  obtain ⟨ρ', res, ⟨rfl, hq⟩, H⟩ := w
  rcases res with ⟨v, h'⟩ | ⟨n, h'⟩
  · rcases v with - | v | v | v
    · exact hq.elim
    · exact ⟨v, h', hq, fun Q' X' q => ⟨ρ', .inl (some (.inl v), h'), ⟨rfl, q⟩, H⟩⟩
    · exact hq.elim
    · exact hq.elim
  · exact hq.elim
theorem ak_MV_get {Q : ak_S → Prop} (w : ak_MV e r d ρ j ar h Q ak_F) : ∃ h', Q h' ∧ ∀ (Q' : ak_S → Prop) (X' : Nat → ak_S → Prop), Q' h' → ak_MV e r d ρ j ar h Q' X' := by
  obtain ⟨ρ', res, ⟨rfl, hq⟩, H⟩ := w
  rcases res with ⟨v, h'⟩ | ⟨n, h'⟩
  · cases v with
    | none => exact ⟨h', hq, fun Q' X' q => ⟨ρ', .inl (none, h'), ⟨rfl, q⟩, H⟩⟩
    | some v => exact hq.elim
  · exact hq.elim
end GET
/-! the orders, the nodes -/
section PUT
variable {e : ak_X3} {d : Nat} {ρ : List Nat} {h : ak_S} {u : Nat}
/-- an order more, the z-th -/
def ak_put (h : ak_S) (u z : Nat) (o x : Int) : ak_S := (am_up (am_up (am_up h.1 (ak_T u + 2) z o) (ak_T u + 3) z x) (ak_T u + 1) 2 ((z + 1 : Nat) : Int), h.2)
theorem am_s3 (hu : u = 0 ∨ u = 1) {Q : Int → ak_S → Prop} {X : Nat → ak_S → Prop} {o x : Int} {z : Nat} (hz : h.1 (ak_T u + 1) 2 = (z : Int)) (hz2 : z < 9600) (w : Q (z : Int) (ak_put h u z o x)) : ak_MI e 0 (d + 1) ρ 3 [am_r (ak_T u + 1), am_i o, am_i x] h Q X := by
  have hml : am_cats [am_r (ak_T u + 1), am_i o, am_i x] ≤ am_ml am_P 3 := Nat.le_of_ble_eq_true rfl
  have b : 0 ≤ h.1 (ak_T u + 1) 2 ∧ h.1 (ak_T u + 1) 2 < 9600 := by rw [hz]; omega
  have e2 : am_w32 (am_w32 (h.1 (ak_T u + 1) 2 + 1) - 1) = (z : Int) := by
    rw [hz, ak_wj (show z < 1000000 by omega), ak_w (((z + 1 : Nat) : Int) - 1) (by omega)]
    omega
  refine ak_MI_of hml (am_k3_0 hu ⟨fun _ => ⟨b, b, ?_⟩, fun q => absurd q (by rw [hz]; omega)⟩)
  rw [e2, hz, ak_natn, ak_wj (show z < 1000000 by omega)]
  exact w
def ak_land (h : ak_S) (u s : Nat) (z : Int) : ak_S := (am_up h.1 (ak_T u + 3) s z, h.2)
theorem am_s4 (hu : u = 0 ∨ u = 1) {Q : ak_S → Prop} {X : Nat → ak_S → Prop} {s : Nat} {z : Int} (hs : s < 9600) (hz : h.1 (ak_T u + 1) 2 = z) (w : Q (ak_land h u s z)) : ak_MV e 0 (d + 1) ρ 4 [am_r (ak_T u + 1), am_i (s : Int)] h Q X := by
  have hml : am_cats [am_r (ak_T u + 1), am_i (s : Int)] ≤ am_ml am_P 4 := Nat.le_of_ble_eq_true rfl
  have b : 0 ≤ (s : Int) ∧ (s : Int) < 9600 := by omega
  refine ak_MV_of hml (am_k4_0 hu ⟨fun _ => ?_, fun _ => ⟨fun q => absurd q (by omega), fun _ => ⟨b, ?_⟩⟩⟩)
  · exact absurd (show (s : Int) < 0 by assumption) (by omega)
  · rw [ak_natn, hz]
    exact w
/-- a node more, the z-th of the half p -/
def ak_node (h : ak_S) (p z : Nat) (k w : Int) : ak_S := (am_up (am_up (am_up (am_up (am_up (am_up (am_up (am_up h.1 121 p ((z + 1 : Nat) : Int)) 114 (9000 * p + z) k) 115 (9000 * p + z) (-1)) 116 (9000 * p + z) (-1)) 117 (9000 * p + z) (-1)) 118 (9000 * p + z) (-1)) 119 (9000 * p + z) (-1)) 120 (9000 * p + z) w, h.2)
theorem am_s212 {Q : Int → ak_S → Prop} {X : Nat → ak_S → Prop} {k w : Int} {p z : Nat} (hp : h.1 110 31 = (p : Int)) (hp2 : p < 2) (hz : h.1 121 p = (z : Int)) (hz2 : z < 9000) (wq : Q ((9000 * p + z : Nat) : Int) (ak_node h p z k w)) : ak_MI e 1 (d + 1) ρ 212 [am_r 110, am_i k, am_i w] h Q X := by
  have b : 0 ≤ (p : Int) ∧ (p : Int) < 2 := by omega
  have b2 : 0 ≤ ((9000 * p + z : Nat) : Int) ∧ ((9000 * p + z : Nat) : Int) < 18000 := by omega
  refine ak_MI_of (Nat.le_of_ble_eq_true rfl) (am_k212_0 ?_)
  rw [hp, ak_natn, hz, show am_w32 (am_w32 (9000 * (p : Int)) + (z : Int)) = ((9000 * p + z : Nat) : Int) from ak_wmul (c := 9000) (by omega), ak_natn, ak_wj (show z < 1000000 by omega)]
  exact ⟨b, b, b, b2, b2, b2, b2, b2, b2, b2, wq⟩
end PUT
