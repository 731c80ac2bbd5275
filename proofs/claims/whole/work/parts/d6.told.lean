/-! the calls that tell of a run, a text being loaded -/
section TOLD
variable {e : ak_X3} {d ρ1 ρ2 u : Nat} {h hc hm : ak_S} {Q : ak_S → Prop} {X : Nat → ak_S → Prop} {R : ak_S → ak_S → Prop} {x0 x1 x2 x3 : Int}
theorem am_s193 (hu : u = 0 ∨ u = 1) (w1 : 0 ≤ x0 → x0 < x1 → Q h) (w2 : x0 < 0 ∨ x1 ≤ x0 → X 2 (ak_th h)) : ak_MV e 0 (d + 1) [ak_T u, ρ1, ρ2, ak_T u, ak_T u + 1] 193 [am_i x0, am_i x1] h Q X :=
  ak_MV_of (Nat.le_of_ble_eq_true rfl) (am_k193_0 hu ⟨fun g => w2 (Or.inl g), fun g => ⟨fun g2 => w1 g g2, fun g2 => w2 (Or.inr g2)⟩⟩)
theorem am_s194 (hu : u = 0 ∨ u = 1) (w1 : 0 ≤ x0 → x0 < x1 → Q h) (w2 : x0 < 0 ∨ x1 ≤ x0 → X 1 (ak_th h)) : ak_MV e 0 (d + 1) [ak_T u, ρ1, ρ2, ak_T u, ak_T u + 1] 194 [am_i x0, am_i x1] h Q X :=
  ak_MV_of (Nat.le_of_ble_eq_true rfl) (am_k194_0 hu ⟨fun g => w2 (Or.inl g), fun g => ⟨fun g2 => w1 g g2, fun g2 => w2 (Or.inr g2)⟩⟩)
/-- all that a call without a run leaves -/
def ak_RR (R : ak_S → ak_S → Prop) (hc hm : ak_S) : Prop := R hc (ak_no hm 0) ∧ ∀ x, R (ak_th hc) (ak_no hm x)
theorem am_ld172 (hu : u = 0 ∨ u = 1) (h0 : hc.1 1 8 ≠ 0) (h1 : hm.1 110 4 ≠ 0) (J : ak_jn hc hm) (r : ak_RR R hc hm) : ak_cJ e (d + 2) [ak_T u, ρ1, ρ2, ak_T u, ak_T u + 1] 172 303 [am_i x0] hc hm [(0, 1), (1, 2)] R := by
  refine ak_MJ_of (Nat.le_of_ble_eq_true rfl) (am_k172_0 hu (am_s192 hu (fun _ => am_s194 hu (fun a b => ⟨⟨a, b⟩, ?_⟩) (fun a => ⟨2, by decide, ?_⟩)) (fun g => absurd g h0)))
  · refine ak_MJ_of (Nat.le_of_ble_eq_true rfl) (am_k303_0 ⟨fun _ => ⟨fun g => absurd a (by omega), fun _ => ⟨fun _ => ?_, fun g => absurd b (by omega)⟩⟩, fun g => absurd g h1⟩)
    obtain ⟨⟨j0, j1, j2, j3, j4, j5, j6⟩, _⟩ := J
    refine ⟨fun n0 => ⟨fun n1 => ⟨fun n2 => ⟨fun n3 => ⟨fun n4 => ⟨fun n5 => ⟨r.1, rfl, ?_⟩, fun g => ⟨r.1, rfl, ?_⟩⟩, fun g => ⟨r.1, rfl, ?_⟩⟩, fun g => ⟨r.1, rfl, ?_⟩⟩, fun g => ⟨r.1, rfl, ?_⟩⟩, fun g => ⟨r.1, rfl, ?_⟩⟩, fun g => ⟨r.1, rfl, ?_⟩⟩
    · have : x0 = 6 := by omega
      subst this; exact j6
    · subst g; exact j5
    · subst g; exact j4
    · subst g; exact j3
    · subst g; exact j2
    · subst g; exact j1
    · subst g; exact j0
  · exact ak_MJ_of (Nat.le_of_ble_eq_true rfl) (am_k303_0 ⟨fun _ => ⟨fun _ => am_s198 ⟨r.2 2, rfl⟩, fun g => ⟨fun g2 => absurd a (by omega), fun _ => am_s198 ⟨r.2 2, rfl⟩⟩⟩, fun g => absurd g h1⟩)
theorem ak_min {c : Int} {n : Int} (h : 0 ≤ c) (hn : 0 ≤ n ∧ n ≤ 300) : am_w32 (if n < c then n else c) = if n < c then n else c := ak_w _ (by split <;> omega)
theorem ak_row {x k n : Int} {w N : Nat} (hx : 0 ≤ x) (hxn : x < n) (hk : 0 ≤ k) (hkw : k < (w : Int)) (hn : n ≤ 300) (hw : w ≤ 6) : am_w32 (am_w32 (x * (w : Int)) + k) = ((w * x.toNat + k.toNat : Nat) : Int) := by
  have h1 : x * (w : Int) ≤ 300 * 6 := by
    have := Int.mul_le_mul (show x ≤ 300 by omega) (show (w : Int) ≤ 6 by omega) (by omega) (by decide)
    exact this
  have h2 : 0 ≤ x * (w : Int) := Int.mul_nonneg hx (by omega)
  have h3 : x * (w : Int) = ((w * x.toNat : Nat) : Int) := by
    rw [Int.natCast_mul, Int.toNat_of_nonneg hx, Int.mul_comm]
  rw [h3] at h1 h2 ⊢
  rw [ak_w (((w * x.toNat : Nat) : Int)) (by omega), ak_w _ (by omega)]
  omega
theorem am_ld173 (hu : u = 0 ∨ u = 1) (h0 : hc.1 1 8 ≠ 0) (h1 : hm.1 110 4 ≠ 0) (J : ak_jn hc hm) (r : ak_RR R hc hm) : ak_cJ e (d + 2) [ak_T u, ρ1, ρ2, ak_T u, ak_T u + 1] 173 304 [am_i x0, am_i x1] hc hm [(0, 1), (1, 3), (2, 2)] R := by
  obtain ⟨⟨j0, j1, j2, j3, j4, j5, j6⟩, ⟨b1, b2, b3, b4⟩, r1, r2, r3, r4⟩ := J
  refine ak_MJ_of (Nat.le_of_ble_eq_true rfl) (am_k173_0 hu (am_s192 hu (fun _ => ak_MI_of (Nat.le_of_ble_eq_true rfl) (am_k61_0 ⟨by decide, ?_⟩)) (fun g => absurd g h0)))
  rw [j5, ak_min b3.1 (by decide)]
  refine am_s193 hu (fun a b => am_s194 hu (fun a2 b2' => ?_) (fun a2 => ⟨3, by decide, ?_⟩)) (fun a => ⟨2, by decide, ?_⟩)
  · have bx : x0 < hm.1 110 110 ∧ x0 < 300 := by split at b <;> omega
    have lt : 2 * x0.toNat + x1.toNat < 600 := by omega
    rw [show am_w32 (am_w32 (x0 * 2) + x1) = ((2 * x0.toNat + x1.toNat : Nat) : Int) from ak_row (w := 2) (N := 0) a bx.2 a2 b2' (by decide) (by decide)]
    refine ⟨⟨Int.natCast_nonneg _, (Int.ofNat_lt.mpr lt : ((2 * x0.toNat + x1.toNat : Nat) : Int) < ((600 : Nat) : Int))⟩, ?_⟩
    rw [ak_natn]
    have rr := r1 x0.toNat (by omega) (by omega)
    refine ak_MJ_of (Nat.le_of_ble_eq_true rfl) (am_k304_0 ⟨fun _ => ⟨fun g => absurd a (by omega), fun _ => ⟨fun g => absurd bx.1 (by omega), fun _ => ⟨fun _ => ⟨fun g => absurd a2 (by omega), fun _ => ⟨fun _ => ⟨fun n0 => ⟨by omega, r.1, rfl, ?_⟩, fun n0 => ⟨by omega, r.1, rfl, ?_⟩⟩, fun g => absurd b2' (by omega)⟩⟩, fun g => absurd bx.2 (by omega)⟩⟩⟩, fun g => absurd g h1⟩)
    · have : x1 = 1 := by omega
      subst this
      exact rr.2
    · subst n0
      exact rr.1
  · have bx : x0 < hm.1 110 110 ∧ x0 < 300 := by split at b <;> omega
    exact ak_MJ_of (Nat.le_of_ble_eq_true rfl) (am_k304_0 ⟨fun _ => ⟨fun g => absurd a (by omega), fun _ => ⟨fun g => absurd bx.1 (by omega), fun _ => ⟨fun _ => ⟨fun _ => am_s198 ⟨r.2 3, rfl⟩, fun g => ⟨fun g2 => absurd a2 (by omega), fun _ => am_s198 ⟨r.2 3, rfl⟩⟩⟩, fun g => absurd bx.2 (by omega)⟩⟩⟩, fun g => absurd g h1⟩)
  · have bx : x0 < 0 ∨ hm.1 110 110 ≤ x0 ∨ 300 ≤ x0 := by split at a <;> omega
    exact ak_MJ_of (Nat.le_of_ble_eq_true rfl) (am_k304_0 ⟨fun _ => ⟨fun _ => am_s198 ⟨r.2 2, rfl⟩, fun g => ⟨fun _ => am_s198 ⟨r.2 2, rfl⟩, fun g2 => ⟨fun g3 => absurd bx (by omega), fun _ => am_s198 ⟨r.2 2, rfl⟩⟩⟩⟩, fun g => absurd g h1⟩)
theorem am_ld174 (hu : u = 0 ∨ u = 1) (h0 : hc.1 1 8 ≠ 0) (h1 : hm.1 110 4 ≠ 0) (J : ak_jn hc hm) (r : ak_RR R hc hm) : ak_cJ e (d + 2) [ak_T u, ρ1, ρ2, ak_T u, ak_T u + 1] 174 305 [am_i x0, am_i x1] hc hm [(0, 1), (1, 3), (2, 2)] R := by
  obtain ⟨⟨j0, j1, j2, j3, j4, j5, j6⟩, ⟨b1, b2, b3, b4⟩, r1, r2, r3, r4⟩ := J
  refine ak_MJ_of (Nat.le_of_ble_eq_true rfl) (am_k174_0 hu (am_s192 hu (fun _ => ak_MI_of (Nat.le_of_ble_eq_true rfl) (am_k62_0 ⟨by decide, ?_⟩)) (fun g => absurd g h0)))
  rw [j6, ak_min b4.1 (by decide)]
  refine am_s193 hu (fun a b => am_s194 hu (fun a2 b2' => ?_) (fun a2 => ⟨3, by decide, ?_⟩)) (fun a => ⟨2, by decide, ?_⟩)
  · have bx : x0 < hm.1 110 111 ∧ x0 < 300 := by split at b <;> omega
    have lt : 4 * x0.toNat + x1.toNat < 1200 := by omega
    rw [show am_w32 (am_w32 (x0 * 4) + x1) = ((4 * x0.toNat + x1.toNat : Nat) : Int) from ak_row (w := 4) (N := 0) a bx.2 a2 b2' (by decide) (by decide)]
    refine ⟨⟨Int.natCast_nonneg _, (Int.ofNat_lt.mpr lt : ((4 * x0.toNat + x1.toNat : Nat) : Int) < ((1200 : Nat) : Int))⟩, ?_⟩
    rw [ak_natn]
    have rr := r2 x0.toNat (by omega) (by omega)
    refine ak_MJ_of (Nat.le_of_ble_eq_true rfl) (am_k305_0 ⟨fun _ => ⟨fun g => absurd a (by omega), fun _ => ⟨fun g => absurd bx.1 (by omega), fun _ => ⟨fun _ => ⟨fun g => absurd a2 (by omega), fun _ => ⟨fun _ => ⟨fun n0 => ⟨fun n1 => ⟨fun n2 => ⟨by omega, r.1, rfl, ?_⟩, fun n2 => ⟨by omega, r.1, rfl, ?_⟩⟩, fun n1 => ⟨by omega, r.1, rfl, ?_⟩⟩, fun n0 => ⟨by omega, r.1, rfl, ?_⟩⟩, fun g => absurd b2' (by omega)⟩⟩, fun g => absurd bx.2 (by omega)⟩⟩⟩, fun g => absurd g h1⟩)
    · have : x1 = 3 := by omega
      subst this
      exact rr.2.2.2
    · subst n2
      exact rr.2.2.1
    · subst n1
      exact rr.2.1
    · subst n0
      exact rr.1
  · have bx : x0 < hm.1 110 111 ∧ x0 < 300 := by split at b <;> omega
    exact ak_MJ_of (Nat.le_of_ble_eq_true rfl) (am_k305_0 ⟨fun _ => ⟨fun g => absurd a (by omega), fun _ => ⟨fun g => absurd bx.1 (by omega), fun _ => ⟨fun _ => ⟨fun _ => am_s198 ⟨r.2 3, rfl⟩, fun g => ⟨fun g2 => absurd a2 (by omega), fun _ => am_s198 ⟨r.2 3, rfl⟩⟩⟩, fun g => absurd bx.2 (by omega)⟩⟩⟩, fun g => absurd g h1⟩)
  · have bx : x0 < 0 ∨ hm.1 110 111 ≤ x0 ∨ 300 ≤ x0 := by split at a <;> omega
    exact ak_MJ_of (Nat.le_of_ble_eq_true rfl) (am_k305_0 ⟨fun _ => ⟨fun _ => am_s198 ⟨r.2 2, rfl⟩, fun g => ⟨fun _ => am_s198 ⟨r.2 2, rfl⟩, fun g2 => ⟨fun g3 => absurd bx (by omega), fun _ => am_s198 ⟨r.2 2, rfl⟩⟩⟩⟩, fun g => absurd g h1⟩)
theorem am_ld175 (hu : u = 0 ∨ u = 1) (h0 : hc.1 1 8 ≠ 0) (h1 : hm.1 110 4 ≠ 0) (J : ak_jn hc hm) (r : ak_RR R hc hm) : ak_cJ e (d + 2) [ak_T u, ρ1, ρ2, ak_T u, ak_T u + 1] 175 306 [am_i x0, am_i x1] hc hm [(0, 1), (1, 3), (2, 2)] R := by
  obtain ⟨⟨j0, j1, j2, j3, j4, j5, j6⟩, ⟨b1, b2, b3, b4⟩, r1, r2, r3, r4⟩ := J
  refine ak_MJ_of (Nat.le_of_ble_eq_true rfl) (am_k175_0 hu (am_s192 hu (fun _ => ak_MI_of (Nat.le_of_ble_eq_true rfl) (am_k63_0 ⟨by decide, ?_⟩)) (fun g => absurd g h0)))
  rw [j4, ak_min b2.1 (by decide)]
  refine am_s193 hu (fun a b => am_s194 hu (fun a2 b2' => ?_) (fun a2 => ⟨3, by decide, ?_⟩)) (fun a => ⟨2, by decide, ?_⟩)
  · have bx : x0 < hm.1 110 109 ∧ x0 < 64 := by split at b <;> omega
    have lt : 6 * x0.toNat + x1.toNat < 384 := by omega
    rw [show am_w32 (am_w32 (x0 * 6) + x1) = ((6 * x0.toNat + x1.toNat : Nat) : Int) from ak_row (w := 6) (N := 0) a bx.2 a2 b2' (by decide) (by decide)]
    refine ⟨⟨Int.natCast_nonneg _, (Int.ofNat_lt.mpr lt : ((6 * x0.toNat + x1.toNat : Nat) : Int) < ((384 : Nat) : Int))⟩, ?_⟩
    rw [ak_natn]
    have rr := r3 x0.toNat (by omega) (by omega)
    refine ak_MJ_of (Nat.le_of_ble_eq_true rfl) (am_k306_0 ⟨fun _ => ⟨fun g => absurd a (by omega), fun _ => ⟨fun g => absurd bx.1 (by omega), fun _ => ⟨fun _ => ⟨fun g => absurd a2 (by omega), fun _ => ⟨fun _ => ⟨fun n0 => ⟨fun n1 => ⟨fun n2 => ⟨fun n3 => ⟨fun n4 => ⟨by omega, r.1, rfl, ?_⟩, fun n4 => ⟨by omega, r.1, rfl, ?_⟩⟩, fun n3 => ⟨by omega, r.1, rfl, ?_⟩⟩, fun n2 => ⟨by omega, r.1, rfl, ?_⟩⟩, fun n1 => ⟨by omega, r.1, rfl, ?_⟩⟩, fun n0 => ⟨by omega, r.1, rfl, ?_⟩⟩, fun g => absurd b2' (by omega)⟩⟩, fun g => absurd bx.2 (by omega)⟩⟩⟩, fun g => absurd g h1⟩)
    · have : x1 = 5 := by omega
      subst this
      exact rr.2.2.2.2.2
    · subst n4
      exact rr.2.2.2.2.1
    · subst n3
      exact rr.2.2.2.1
    · subst n2
      exact rr.2.2.1
    · subst n1
      exact rr.2.1
    · subst n0
      exact rr.1
  · have bx : x0 < hm.1 110 109 ∧ x0 < 64 := by split at b <;> omega
    exact ak_MJ_of (Nat.le_of_ble_eq_true rfl) (am_k306_0 ⟨fun _ => ⟨fun g => absurd a (by omega), fun _ => ⟨fun g => absurd bx.1 (by omega), fun _ => ⟨fun _ => ⟨fun _ => am_s198 ⟨r.2 3, rfl⟩, fun g => ⟨fun g2 => absurd a2 (by omega), fun _ => am_s198 ⟨r.2 3, rfl⟩⟩⟩, fun g => absurd bx.2 (by omega)⟩⟩⟩, fun g => absurd g h1⟩)
  · have bx : x0 < 0 ∨ hm.1 110 109 ≤ x0 ∨ 64 ≤ x0 := by split at a <;> omega
    exact ak_MJ_of (Nat.le_of_ble_eq_true rfl) (am_k306_0 ⟨fun _ => ⟨fun _ => am_s198 ⟨r.2 2, rfl⟩, fun g => ⟨fun _ => am_s198 ⟨r.2 2, rfl⟩, fun g2 => ⟨fun g3 => absurd bx (by omega), fun _ => am_s198 ⟨r.2 2, rfl⟩⟩⟩⟩, fun g => absurd g h1⟩)
theorem am_ld176 {us Mt : Nat} (hu : u = 0 ∨ u = 1) (h0 : hc.1 1 8 ≠ 0) (h1 : hm.1 110 4 ≠ 0) (J : ak_jn hc hm) (hus : hm.1 110 3 = (us : Int)) (hus2 : us < 2) (m1 : hc.1 (ak_T u) 4 = (Mt : Int)) (m2 : hm.1 122 us = (Mt : Int)) (m3 : Mt ≤ 40) (r : ak_RR R hc hm) : ak_cI e (d + 2) [ak_T u, ρ1, ρ2, ak_T u, ak_T u + 1] 176 307 [am_i x0] hc hm [(0, 1), (2, 2)] R := by
  refine ak_MI_of (Nat.le_of_ble_eq_true rfl) (am_k176_0 hu (am_s192 hu (fun _ => am_s193 hu (fun a b => ?_) (fun a => ⟨2, by decide, ?_⟩)) (fun g => absurd g h0)))
  · rw [m1] at b
    refine ⟨by omega, ?_⟩
    refine ak_MI_of (Nat.le_of_ble_eq_true rfl) (am_k307_0 ⟨fun _ => ⟨fun g => absurd a (by omega), fun _ => ?_⟩, fun g => absurd g h1⟩)
    rw [hus, ak_natn, m2]
    exact ⟨by omega, fun _ => ⟨by omega, r.1, rfl, J.2.2.2.2.2 _ (by omega)⟩, fun g => absurd b (by omega)⟩
  · rw [m1] at a
    refine ak_MI_of (Nat.le_of_ble_eq_true rfl) (am_k307_0 ⟨fun _ => ⟨fun _ => am_s198 ⟨r.2 2, rfl⟩, fun g => ?_⟩, fun g => absurd g h1⟩)
    rw [hus, ak_natn, m2]
    exact ⟨by omega, fun g => absurd a (by omega), fun _ => am_s198 ⟨r.2 2, rfl⟩⟩
end TOLD
