/-! the calls that only read: count, shape, item, site, voids, gone -/
section ASKS
variable {e : ak_X3} {d ρ1 ρ2 u us : Nat} {ρ : List Nat} {h hc hm : ak_S} {R : ak_S → ak_S → Prop} {x0 x1 x2 x3 : Int}
theorem am_s308 {Q : Int → ak_S → Prop} {X : Nat → ak_S → Prop} {O : Nat} (hO : h.1 110 46 = (O : Int)) (w1 : 0 ≤ x0 → x0 < (O : Int) → Q 1 h) (w0 : x0 < 0 ∨ (O : Int) ≤ x0 → Q 0 h) : ak_MI e 1 (d + 1) ρ 308 [am_r 110, am_i x0] h Q X := by
  refine ak_MI_of (Nat.le_of_ble_eq_true rfl) (am_k308_0 ?_)
  rw [hO]
  exact ⟨fun g => ⟨Or.inl rfl, w0 (Or.inl g)⟩, fun g => ⟨fun g2 => ⟨Or.inl rfl, w0 (Or.inr g2)⟩, fun g2 => ⟨Or.inr rfl, w1 g g2⟩⟩⟩
theorem am_s309 {Q : Int → ak_S → Prop} {X : Nat → ak_S → Prop} {N : Nat} (hus : h.1 110 3 = (us : Int)) (hus2 : us < 2) (hN : h.1 131 us = (N : Int)) (w1 : 0 ≤ x0 → x0 < (N : Int) → Q 1 h) (w0 : x0 < 0 ∨ (N : Int) ≤ x0 → Q 0 h) : ak_MI e 1 (d + 1) ρ 309 [am_r 110, am_i x0] h Q X := by
  refine ak_MI_of (Nat.le_of_ble_eq_true rfl) (am_k309_0 ?_)
  rw [hus, ak_natn, hN]
  exact ⟨fun g => ⟨Or.inl rfl, w0 (Or.inl g)⟩, fun g => ⟨by omega, fun g2 => ⟨Or.inl rfl, w0 (Or.inr g2)⟩, fun g2 => ⟨Or.inr rfl, w1 g g2⟩⟩⟩
theorem am_ld178 (hu : u = 0 ∨ u = 1) (A : ak_all us hc hm) (L : ak_LD u us hc hm) (k1 : hc.1 1 8 = 1) (k2 : hm.1 110 4 = 1) (r : ak_rr u us R hc hm) : ak_cI e (d + 2) [ak_T u, ρ1, ρ2, ak_T u, ak_T u + 1] 178 311 [am_i x0] hc hm [(0, 1), (1, 2)] R := by
  have rr := ak_RR_of hu A L k1 k2 r
  obtain ⟨h0, m0, b, n, m, Mt, z, S, O, B, T, sh, E, Et, G, φ, hr, lv, mt, Us, FR, tx, ag, ⟨hO, wd⟩, st, rm, jn⟩ := L
  obtain ⟨⟨a1, a2, a3, a4⟩, ⟨c1, c2, c3, c4⟩, ⟨d1, d2, d3⟩, ⟨f1, f2, f3⟩, g1⟩ := ak_tx_now tx ag
  have us2 := A.1
  have hus := A.2.1
  have e0 : hc.1 (ak_T u) 4 = hm.1 122 us := a1.trans a2.symm
  have e1 : hc.1 (ak_T u) 6 = hm.1 131 us := c1.trans c2.symm
  have e2 : hc.1 (ak_T u) 10 = hm.1 127 us := d1.trans d2.symm
  have e3 : hc.1 (ak_T u) 14 = hm.1 134 us := f1.trans f2.symm
  have e4 : hc.1 33 0 = hm.1 110 46 := wd.2.2.2.1.2.1.trans wd.2.2.2.1.2.2.symm
  have e5 : hc.1 33 4 = hm.1 110 53 := wd.2.1.1.trans wd.2.2.1.1.symm
  have e6 : hc.1 49 14 = hm.1 110 57 := rm.2.2.1.trans rm.2.2.2.1.symm
  have e7 : hc.1 44 4 = hm.1 110 78 := st.2.2.1.2.2.2.1.trans st.2.2.1.2.2.2.2.symm
  have e8 : hc.1 44 6 = hm.1 110 71 := A.2.2.2.1.1
  have n1 : hc.1 1 8 ≠ 0 := by omega
  have n2 : hm.1 110 4 ≠ 0 := by omega
  have hu0 : 0 ≤ (us : Int) ∧ (us : Int) < 2 := by omega
  clear tx ag wd st rm jn r A
  have key : ∀ v : Int, 0 ≤ x0 → x0 ≤ 8 → (x0 = 0 → v = hm.1 122 us) → (x0 = 1 → v = hm.1 131 us) → (x0 = 2 → v = hm.1 127 us) → (x0 = 3 → v = hm.1 134 us) → (x0 = 4 → v = hm.1 110 46) → (x0 = 5 → v = hm.1 110 53) → (x0 = 6 → v = hm.1 110 57) → (x0 = 7 → v = hm.1 110 78) → (x0 = 8 → v = hm.1 110 71) →
      ak_MI e 1 (d + 2) [ak_T u, ρ1, ρ2, ak_T u, ak_T u + 1] 311 [am_r 110, am_i x0] hm (fun b hm' => R hc hm' ∧ hm'.1 110 0 = 0 ∧ v = b) ak_F := by
    intro v b0 b8 v0 v1 v2 v3 v4 v5 v6 v7 v8
    refine ak_MI_of (Nat.le_of_ble_eq_true rfl) (am_k311_0 ⟨fun _ => ⟨fun g => absurd b0 (by omega), fun _ => ⟨fun _ => ?_, fun g => absurd b8 (by omega)⟩⟩, fun g => absurd g n2⟩)
    rw [hus, ak_natn]
    exact ⟨trivial, fun g => ⟨rr.1, rfl, v8 (by omega)⟩, fun g => ⟨hu0, rr.1, rfl, v0 g⟩, fun g => ⟨hu0, rr.1, rfl, v1 (by omega)⟩, fun g => ⟨hu0, rr.1, rfl, v2 (by omega)⟩, fun g => ⟨hu0, rr.1, rfl, v3 (by omega)⟩, fun g => ⟨rr.1, rfl, v4 (by omega)⟩, fun g => ⟨rr.1, rfl, v5 (by omega)⟩, fun g => ⟨rr.1, rfl, v6 (by omega)⟩, fun g => ⟨rr.1, rfl, v7 (by omega)⟩, trivial⟩
  refine ak_MI_of (Nat.le_of_ble_eq_true rfl) (am_k178_0 hu (am_s192 hu (fun _ => ⟨trivial, fun g => ⟨2, by decide, ?_⟩, fun g => key _ (by omega) (by omega) (by omega) (by omega) (by omega) (by omega) (by omega) (by omega) (by omega) (by omega) (by omega), fun g => key _ (by omega) (by omega) (by omega) (by omega) (by omega) (by omega) (by omega) (by omega) (by omega) (by omega) (by omega), fun g => key _ (by omega) (by omega) (by omega) (by omega) (by omega) (by omega) (by omega) (by omega) (by omega) (by omega) (by omega), fun g => key _ (by omega) (by omega) (by omega) (by omega) (by omega) (by omega) (by omega) (by omega) (by omega) (by omega) (by omega), fun g => key _ (by omega) (by omega) (by omega) (by omega) (by omega) (by omega) (by omega) (by omega) (by omega) (by omega) (by omega), fun g => key _ (by omega) (by omega) (by omega) (by omega) (by omega) (by omega) (by omega) (by omega) (by omega) (by omega) (by omega), fun g => key _ (by omega) (by omega) (by omega) (by omega) (by omega) (by omega) (by omega) (by omega) (by omega) (by omega) (by omega), fun g => key _ (by omega) (by omega) (by omega) (by omega) (by omega) (by omega) (by omega) (by omega) (by omega) (by omega) (by omega), fun g => key _ (by omega) (by omega) (by omega) (by omega) (by omega) (by omega) (by omega) (by omega) (by omega) (by omega) (by omega), trivial⟩) (fun g => absurd g n1)))
  exact ak_MI_of (Nat.le_of_ble_eq_true rfl) (am_k311_0 ⟨fun _ => ⟨fun _ => am_s198 ⟨rr.2 2, rfl⟩, fun g2 => ⟨fun g3 => absurd g (by omega), fun _ => am_s198 ⟨rr.2 2, rfl⟩⟩⟩, fun g => absurd g n2⟩)
theorem am_ld180 (hu : u = 0 ∨ u = 1) (A : ak_all us hc hm) (L : ak_LD u us hc hm) (k1 : hc.1 1 8 = 1) (k2 : hm.1 110 4 = 1) (r : ak_rr u us R hc hm) : ak_cI e (d + 2) [ak_T u, ρ1, ρ2, ak_T u, ak_T u + 1] 180 313 [am_i x0] hc hm [(0, 1), (2, 2)] R := by
  have rr := ak_RR_of hu A L k1 k2 r
  obtain ⟨h0, m0, b, n, m, Mt, z, S, O, B, T, sh, E, Et, G, φ, hr, lv, mt, Us, FR, tx, ag, ⟨hO, wd⟩, st, rm, jn⟩ := L
  have n1 : hc.1 1 8 ≠ 0 := by omega
  have n2 : hm.1 110 4 ≠ 0 := by omega
  obtain ⟨w1, w2, w3, ⟨w4, w5, w6⟩, w7⟩ := wd
  refine ak_MI_of (Nat.le_of_ble_eq_true rfl) (am_k180_0 hu (am_s192 hu (fun _ => ?_) (fun g => absurd g n1)))
  rw [w5]
  refine am_s193 hu (fun a b => ⟨by omega, ?_⟩) (fun a => ⟨2, by decide, ?_⟩)
  · obtain ⟨v1, v2, v3, v4⟩ := w7 x0.toNat (by omega)
    exact ak_MI_of (Nat.le_of_ble_eq_true rfl) (am_k313_0 ⟨fun _ => am_s308 w6 (fun _ _ => ⟨fun _ => ⟨by omega, rr.1, rfl, v2.trans v3.symm⟩, fun g => absurd g (by decide)⟩) (fun g => absurd g (by omega)), fun g => absurd g n2⟩)
  · exact ak_MI_of (Nat.le_of_ble_eq_true rfl) (am_k313_0 ⟨fun _ => am_s308 w6 (fun _ _ => absurd a (by omega)) (fun g => ⟨fun g => absurd rfl g, fun _ => am_s198 ⟨rr.2 2, rfl⟩⟩), fun g => absurd g n2⟩)
theorem ak_half {x : Int} (h1 : 0 ≤ x) (h2 : x ≠ 0) (h3 : x < 2147483648) : am_w32 (Int.tdiv (am_w32 (x - 1)) 2) = (((x.toNat - 1) / 2 : Nat) : Int) := by
  rw [ak_w (x - 1) (by omega), Int.tdiv_eq_ediv_of_nonneg (by omega), ak_w _ (by omega)]
  omega
theorem am_ld181 (hu : u = 0 ∨ u = 1) (A : ak_all us hc hm) (L : ak_LD u us hc hm) (k1 : hc.1 1 8 = 1) (k2 : hm.1 110 4 = 1) (r : ak_rr u us R hc hm) (hx1 : ak_r32 x1) : ak_cI e (d + 2) [ak_T u, ρ1, ρ2, ak_T u, ak_T u + 1] 181 314 [am_i x0, am_i x1] hc hm [(0, 1), (1, 3), (2, 2)] R := by
  have rr := ak_RR_of hu A L k1 k2 r
  obtain ⟨h0, m0, b, n, m, Mt, z, S, O, B, T, sh, E, Et, G, φ, hr, lv, mt, Us, FR, tx, ag, ⟨hO, wd⟩, st, rm, jn⟩ := L
  have n1 : hc.1 1 8 ≠ 0 := by omega
  have n2 : hm.1 110 4 ≠ 0 := by omega
  obtain ⟨w1, w2, w3, ⟨w4, w5, w6⟩, w7⟩ := wd
  unfold ak_r32 at hx1
  have hS := w1.1.2.1
  clear tx ag st rm jn r A
  refine ak_MI_of (Nat.le_of_ble_eq_true rfl) (am_k181_0 hu (am_s192 hu (fun _ => ?_) (fun g => absurd g n1)))
  rw [w2.1]
  refine am_s193 hu (fun a b => ?_) (fun a => ⟨2, by decide, ?_⟩)
  · obtain ⟨y1, y2, y3⟩ := w2.2 x0.toNat (by omega)
    obtain ⟨y4, y5⟩ := w3.2 x0.toNat (by omega)
    have yl := (w1.2.1 x0.toNat (by omega)).1
    have hM : ∀ (P : Int → ak_S → Prop), (0 ≤ x1 → (x1 ≠ 0 → (0 ≤ x0 ∧ x0 < 400) ∧ (((x1.toNat - 1) / 2 : Nat) < (T x0.toNat).length → (Int.tmod x1 2 ≠ 1 → P (hm.1 149 (12 * x0.toNat + (x1.toNat - 1) / 2)) (ak_no hm 0)) ∧ (Int.tmod x1 2 = 1 → P (hm.1 148 (12 * x0.toNat + (x1.toNat - 1) / 2)) (ak_no hm 0))) ∧ ((T x0.toNat).length ≤ (x1.toNat - 1) / 2 → P (-1) (ak_no hm 0))) ∧ (x1 = 0 → P ((T x0.toNat).length : Int) (ak_no hm 0))) → (x1 < 0 → P 0 (ak_no hm 3)) → ak_MI e 1 (d + 2) [ak_T u, ρ1, ρ2, ak_T u, ak_T u + 1] 314 [am_r 110, am_i x0, am_i x1] hm P ak_F := by
      intro P q1 q2
      refine ak_MI_of (Nat.le_of_ble_eq_true rfl) (am_k314_0 ⟨fun _ => ⟨fun g => absurd a (by omega), fun _ => ?_⟩, fun g => absurd g n2⟩)
      rw [w3.1, y4]
      refine ⟨fun _ => ⟨fun g0 => ⟨fun g1 => ?_, fun g1 => ⟨by omega, (q1 g0).2 g1⟩⟩, fun g0 => am_s198 (q2 g0)⟩, fun g => absurd b (by omega)⟩
      have hh := ak_half g0 g1 hx1.2
      rw [hh]
      obtain ⟨z1, z2, z3⟩ := (q1 g0).1 g1
      refine ⟨by decide, by omega, fun g2 => ?_, fun g2 => z3 (by omega)⟩
      have lt : (x1.toNat - 1) / 2 < (T x0.toNat).length := by omega
      rw [show am_w32 (am_w32 (12 * x0) + (((x1.toNat - 1) / 2 : Nat) : Int)) = ((12 * x0.toNat + (x1.toNat - 1) / 2 : Nat) : Int) from by
        rw [ak_w (12 * x0) (by omega), ak_w _ (by omega)]
        omega, ak_natn]
      exact ⟨by decide, fun g3 => ⟨by omega, (z2 lt).1 g3⟩, fun g3 => ⟨by omega, (z2 lt).2 g3⟩⟩
    refine ⟨fun g0 => ⟨fun g1 => ?_, fun g1 => ⟨by omega, ?_⟩⟩, fun g0 => ⟨3, by decide, ?_⟩⟩
    · rw [ak_half g0 g1 hx1.2, y1]
      have fin : ∀ v : Int, ((x1.toNat - 1) / 2 < (T x0.toNat).length → (Int.tmod x1 2 ≠ 1 → v = hm.1 149 (12 * x0.toNat + (x1.toNat - 1) / 2)) ∧ (Int.tmod x1 2 = 1 → v = hm.1 148 (12 * x0.toNat + (x1.toNat - 1) / 2))) → ((T x0.toNat).length ≤ (x1.toNat - 1) / 2 → v = -1) → ak_MI e 1 (d + 2) [ak_T u, ρ1, ρ2, ak_T u, ak_T u + 1] 314 [am_r 110, am_i x0, am_i x1] hm (fun b hm' => R hc hm' ∧ hm'.1 110 0 = 0 ∧ v = b) ak_F :=
        fun v q1 q2 => hM _ (fun _ => ⟨fun _ => ⟨by omega, fun lt => ⟨fun g3 => ⟨rr.1, rfl, (q1 lt).1 g3⟩, fun g3 => ⟨rr.1, rfl, (q1 lt).2 g3⟩⟩, fun lt => ⟨rr.1, rfl, q2 lt⟩⟩, fun g => absurd g g1⟩) (fun g => absurd g0 (by omega))
      refine ⟨by decide, by omega, fun g2 => ?_, fun g2 => fin _ (fun g3 => absurd g2 (by omega)) (fun _ => rfl)⟩
      have lt : (x1.toNat - 1) / 2 < (T x0.toNat).length := by omega
      obtain ⟨y, hy⟩ : ∃ y, (T x0.toNat)[(x1.toNat - 1) / 2]? = some y := ⟨_, List.getElem?_eq_getElem lt⟩
      have p1 := y2 _ _ hy
      have p2 := y5 _ _ hy
      rw [show am_w32 (am_w32 (x0 * 12) + (((x1.toNat - 1) / 2 : Nat) : Int)) = ((12 * x0.toNat + (x1.toNat - 1) / 2 : Nat) : Int) from by
        rw [ak_w (x0 * 12) (by omega), ak_w _ (by omega)]
        omega, ak_natn]
      exact ⟨by decide, fun g3 => ⟨by omega, fin _ (fun _ => ⟨fun _ => p1.2.trans p2.2.symm, fun g4 => absurd g4 g3⟩) (fun g4 => absurd g4 (by omega))⟩, fun g3 => ⟨by omega, fin _ (fun _ => ⟨fun g4 => absurd g3 g4, fun _ => p1.1.trans p2.1.symm⟩) (fun g4 => absurd g4 (by omega))⟩⟩
    · rw [y1]
      exact hM _ (fun _ => ⟨fun g => absurd g1 g, fun _ => ⟨rr.1, rfl, rfl⟩⟩) (fun g => absurd g0 (by omega))
    · exact hM _ (fun g => absurd g0 (by omega)) (fun _ => ⟨rr.2 3, rfl⟩)
  · refine ak_MI_of (Nat.le_of_ble_eq_true rfl) (am_k314_0 ⟨fun _ => ⟨fun _ => am_s198 ⟨rr.2 2, rfl⟩, fun g => ?_⟩, fun g => absurd g n2⟩)
    rw [w3.1]
    exact ⟨fun g2 => absurd a (by omega), fun _ => am_s198 ⟨rr.2 2, rfl⟩⟩
theorem am_ld189 (hu : u = 0 ∨ u = 1) (A : ak_all us hc hm) (L : ak_LD u us hc hm) (k1 : hc.1 1 8 = 1) (k2 : hm.1 110 4 = 1) (r : ak_rr u us R hc hm) : ak_cI e (d + 2) [ak_T u, ρ1, ρ2, ak_T u, ak_T u + 1] 189 323 [] hc hm [(0, 1)] R := by
  have rr := ak_RR_of hu A L k1 k2 r
  obtain ⟨h0, m0, b, n, m, Mt, z, S, O, B, T, sh, E, Et, G, φ, hr, lv, mt, Us, FR, tx, ag, ⟨hO, wd⟩, st, rm, jn⟩ := L
  have n1 : hc.1 1 8 ≠ 0 := by omega
  have n2 : hm.1 110 4 ≠ 0 := by omega
  have e5 : hc.1 44 5 = hm.1 110 84 := st.2.2.2.1.1.1.trans st.2.2.2.1.2.1.1.symm
  exact ak_MI_of (Nat.le_of_ble_eq_true rfl) (am_k189_0 hu (am_s192 hu (fun _ => ak_MI_of (Nat.le_of_ble_eq_true rfl) (am_k323_0 ⟨fun _ => ⟨rr.1, rfl, e5⟩, fun g => absurd g n2⟩)) (fun g => absurd g n1)))
theorem am_ld190 (hu : u = 0 ∨ u = 1) (A : ak_all us hc hm) (L : ak_LD u us hc hm) (k1 : hc.1 1 8 = 1) (k2 : hm.1 110 4 = 1) (r : ak_rr u us R hc hm) : ak_cI e (d + 2) [ak_T u, ρ1, ρ2, ak_T u, ak_T u + 1] 190 324 [am_i x0, am_i x1] hc hm [(0, 1), (1, 3), (2, 2)] R := by
  have rr := ak_RR_of hu A L k1 k2 r
  obtain ⟨h0, m0, b, n, m, Mt, z, S, O, B, T, sh, E, Et, G, φ, hr, lv, mt, Us, FR, tx, ag, ⟨hO, wd⟩, st, rm, jn⟩ := L
  have n1 : hc.1 1 8 ≠ 0 := by omega
  have n2 : hm.1 110 4 ≠ 0 := by omega
  obtain ⟨g1, g2, g3⟩ := st.2.2.2.1
  clear tx ag st rm jn r A wd
  refine ak_MI_of (Nat.le_of_ble_eq_true rfl) (am_k190_0 hu (am_s192 hu (fun _ => ?_) (fun g => absurd g n1)))
  rw [g1.1]
  refine am_s193 hu (fun a b => am_s194 hu (fun a2 b2 => ?_) (fun a2 => ⟨3, by decide, ?_⟩)) (fun a => ⟨2, by decide, ?_⟩)
  · have lt : 4 * x0.toNat + x1.toNat < 2912 := by omega
    have lt2 : x0.toNat < G.length := by omega
    obtain ⟨y, hy⟩ : ∃ y, G[x0.toNat]? = some y := ⟨_, List.getElem?_eq_getElem lt2⟩
    have p1 := g1.2 _ _ hy
    have p2 := g2.2 _ _ hy
    rw [show am_w32 (am_w32 (x0 * 4) + x1) = ((4 * x0.toNat + x1.toNat : Nat) : Int) from by
      rw [ak_w (x0 * 4) (by omega), ak_w _ (by omega)]
      omega, ak_natn]
    refine ⟨by omega, ak_MI_of (Nat.le_of_ble_eq_true rfl) (am_k324_0 ⟨fun _ => ⟨fun g => absurd a (by omega), fun _ => ?_⟩, fun g => absurd g n2⟩)⟩
    rw [g2.1]
    refine ⟨fun _ => ⟨fun g => absurd a2 (by omega), fun _ => ⟨fun _ => ⟨fun m0 => ⟨fun m1 => ⟨fun m2 => ⟨by omega, rr.1, rfl, ?_⟩, fun m2 => ⟨by omega, rr.1, rfl, ?_⟩⟩, fun m1 => ⟨by omega, rr.1, rfl, ?_⟩⟩, fun m0 => ⟨by omega, rr.1, rfl, ?_⟩⟩, fun g => absurd b2 (by omega)⟩⟩, fun g => absurd b (by omega)⟩
    · have : x1 = 3 := by omega
      subst this
      exact p1.2.2.2.trans p2.2.2.2.symm
    · subst m2
      exact p1.2.2.1.trans p2.2.2.1.symm
    · subst m1
      exact p1.2.1.trans p2.2.1.symm
    · subst m0
      exact p1.1.trans p2.1.symm
  · refine ak_MI_of (Nat.le_of_ble_eq_true rfl) (am_k324_0 ⟨fun _ => ⟨fun g => absurd a (by omega), fun _ => ?_⟩, fun g => absurd g n2⟩)
    rw [g2.1]
    exact ⟨fun _ => ⟨fun _ => am_s198 ⟨rr.2 3, rfl⟩, fun g => ⟨fun g2 => absurd a2 (by omega), fun _ => am_s198 ⟨rr.2 3, rfl⟩⟩⟩, fun g => absurd b (by omega)⟩
  · refine ak_MI_of (Nat.le_of_ble_eq_true rfl) (am_k324_0 ⟨fun _ => ⟨fun _ => am_s198 ⟨rr.2 2, rfl⟩, fun g => ?_⟩, fun g => absurd g n2⟩)
    rw [g2.1]
    exact ⟨fun g2 => absurd a (by omega), fun _ => am_s198 ⟨rr.2 2, rfl⟩⟩
end ASKS
