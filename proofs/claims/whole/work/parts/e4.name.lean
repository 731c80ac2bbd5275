/-! the call nameByte -/
section NMB
variable {e : ak_X3} {d ρ1 ρ2 u us n : Nat} {ρ : List Nat} {h hc hm : ak_S} {b : Nat → Int} {R : ak_S → ak_S → Prop} {x0 x1 : Int}
set_option maxRecDepth 100000 in
theorem ak_sh5_all : ∀ j : Fin 9, ((Int32.ofInt (am_w32 (5 * (j.1 : Int)))).toInt64 &&& 63).toBitVec.smod 64 = BitVec.ofNat 64 (5 * j.1) := by decide +kernel
theorem ak_of64 {w : Int} (h : 0 ≤ w ∧ w < 4611686018427387904) : (Int64.ofInt w).toInt = w := by
  rw [Int64.toInt_ofInt]
  exact Int.bmod_eq_of_le (by show -((18446744073709551616 : Nat) / 2 : Int) ≤ w; omega) (by show w < ((18446744073709551616 : Nat) + 1) / 2; omega)
theorem ak_p32 : ∀ j : Nat, (2 : Int) ^ (5 * j) = 32 ^ j
  | 0 => rfl
  | j + 1 => by
    rw [show 5 * (j + 1) = 5 * j + 5 by omega, Int.pow_add, ak_p32 j, Int.pow_succ]
    rfl
theorem ak_sh5 {w : Int} (h : 0 ≤ w ∧ w < 4611686018427387904) {j : Nat} (hj : j ≤ 8) : (Int64.ofInt w >>> ((Int32.ofInt (am_w32 (5 * (j : Int)))).toInt64 &&& 63)).toInt = w / 32 ^ j := by
  show ((Int64.ofInt w).toBitVec.sshiftRight' (((Int32.ofInt (am_w32 (5 * (j : Int)))).toInt64 &&& 63).toBitVec.smod 64)).toInt = _
  rw [ak_sh5_all ⟨j, by omega⟩, BitVec.toInt_sshiftRight', BitVec.toNat_ofNat, Nat.mod_eq_of_lt (show 5 * j < 2 ^ 64 by omega)]
  show (Int64.ofInt w).toInt >>> (5 * j) = _
  rw [ak_of64 h, Int.shiftRight_eq_div_pow, ← ak_p32]
  norm_cast
theorem ak_and31 {v : Int} (h : 0 ≤ v ∧ v < 4611686018427387904) : (Int64.ofInt v &&& Int64.ofInt 31).toInt = v % 32 := by
  have h1 : (Int64.ofInt v &&& Int64.ofInt 31).toBitVec.toNat = (v % 18446744073709551616).toNat % 32 := by
    show ((Int64.ofInt v).toBitVec &&& (Int64.ofInt 31).toBitVec).toNat = _
    rw [BitVec.toNat_and]
    show (BitVec.ofInt 64 v).toNat &&& 31 = _
    rw [BitVec.toNat_ofInt]
    exact Nat.and_two_pow_sub_one_eq_mod _ 5
  show (Int64.ofInt v &&& Int64.ofInt 31).toBitVec.toInt = _
  rw [BitVec.toInt_eq_toNat_of_lt (by rw [h1]; omega), h1]
  omega
theorem ak_pk_sh {i z : Nat} (L : ∀ k, k < z → ak_isL (b (i + k))) : ∀ j, j ≤ z → ak_pk b i z / 32 ^ j = ak_pk b i (z - j)
  | 0, _ => by rw [Int.pow_zero, Int.ediv_one]; rfl
  | j + 1, hj => by
    rw [Int.pow_succ, ← Int.ediv_ediv_of_nonneg (Int.pow_nonneg (by decide)), ak_pk_sh L j (by omega)]
    obtain ⟨m, hm⟩ : ∃ m, z - j = m + 1 := ⟨z - j - 1, by omega⟩
    have l := L m (by omega)
    unfold ak_isL at l
    rw [hm, show z - (j + 1) = m by omega]
    show (ak_pk b i m * 32 + (b (i + m) - 96)) / 32 = ak_pk b i m
    omega
theorem am_s137 {Q : Int → ak_S → Prop} {X : Nat → ak_S → Prop} {i z x : Nat} (hu : u = 0 ∨ u = 1) (hx : x < 100) (hw : h.2.1 (ak_T u + 14) x = ak_pk b i z) (hz : z ≤ 8) (L : ∀ k, k < z → ak_isL (b (i + k)))
    (q0 : x1 < 0 ∨ (z : Int) ≤ x1 → Q 0 h) (q1 : 0 ≤ x1 → x1 < (z : Int) → Q (b (i + x1.toNat)) h) : ak_MI e 0 (d + 1) ρ 137 [am_r (ak_T u), am_i (x : Int), am_i x1] h Q X := by
  have m1 : am_cats [am_r (ak_T u), am_i (x : Int), am_i x1] ≤ am_ml am_P 137 := by rcases hu with rfl | rfl <;> exact Nat.le_of_ble_eq_true rfl
  have bd : ∀ m, m ≤ z → 0 ≤ ak_pk b i m ∧ ak_pk b i m < 4611686018427387904 := by
    intro m hm
    have p := ak_pk_in (b := b) (i := i) m (fun k hk => L k (by omega))
    have q : (32 : Int) ^ m ≤ 32 ^ 8 := by
      have : m = 0 ∨ m = 1 ∨ m = 2 ∨ m = 3 ∨ m = 4 ∨ m = 5 ∨ m = 6 ∨ m = 7 ∨ m = 8 := by omega
      rcases this with rfl | rfl | rfl | rfl | rfl | rfl | rfl | rfl | rfl <;> decide
    have q8 : (32 : Int) ^ 8 = 1099511627776 := by decide
    omega
  have bx : 0 ≤ (x : Int) ∧ (x : Int) < 100 := by omega
  have end29 : ak_W0 e 0 d 137 ρ 29 [some (am_r (ak_T u)), some (am_i (x : Int)), some (am_i x1), some (am_i (z : Int))] [] h (ak_qi Q X) := by
    refine am_k137_29 hu ⟨fun g => q0 (Or.inl g), fun g => ⟨fun g2 => ⟨bx, ?_⟩, fun g2 => q0 (Or.inr g2)⟩⟩
    have e1 : am_w32 (am_w32 ((z : Int) - 1) - x1) = ((z - 1 - x1.toNat : Nat) : Int) := by
      rw [ak_w ((z : Int) - 1) (by omega), ak_w _ (by omega)]
      omega
    rw [e1, ak_natn, hw, ak_sh5 (bd z (Nat.le_refl _)) (show z - 1 - x1.toNat ≤ 8 by omega), ak_pk_sh L _ (by omega), show z - (z - 1 - x1.toNat) = x1.toNat + 1 by omega, ak_and31 (bd _ (by omega))]
    have l := L x1.toNat (by omega)
    unfold ak_isL at l
    have e2 : ak_pk b i (x1.toNat + 1) % 32 = b (i + x1.toNat) - 96 := by
      show (ak_pk b i x1.toNat * 32 + (b (i + x1.toNat) - 96)) % 32 = _
      omega
    rw [e2, ak_w (b (i + x1.toNat) - 96) (by omega), ak_w (b (i + x1.toNat) - 96 + 97) (by omega), ak_w _ (by omega), show b (i + x1.toNat) - 96 + 97 - 1 = b (i + x1.toNat) by omega]
    exact q1 g g2
  have lp : ∀ (c j : Nat), j + c = z → ak_W0 e 0 d 137 ρ 2 [some (am_r (ak_T u)), some (am_i (x : Int)), some (am_i x1), some (am_i (j : Int))] [] h (ak_qi Q X) := by
    intro c
    induction c with
    | zero =>
      intro j hj
      have : j = z := by omega
      subst this
      refine am_k137_2 hu ⟨fun _ => end29, fun g => ⟨bx, fun _ => end29, fun g2 => ?_⟩⟩
      rw [ak_natn, hw, ak_sh5 (bd j (Nat.le_refl _)) hz, ak_pk_sh L _ (Nat.le_refl _), Nat.sub_self] at g2
      exact absurd (ak_lsign0.mpr rfl) g2
    | succ c ih =>
      intro j hj
      refine am_k137_2 hu ⟨fun g => absurd g (by omega), fun g => ⟨bx, fun g2 => ?_, fun _ => ?_⟩⟩
      · rw [ak_natn, hw, ak_sh5 (bd z (Nat.le_refl _)) (show j ≤ 8 by omega), ak_pk_sh L _ (by omega)] at g2
        obtain ⟨m, hm⟩ : ∃ m, z - j = m + 1 := ⟨z - j - 1, by omega⟩
        rw [hm] at g2
        have l := L m (by omega)
        unfold ak_isL at l
        have p := (bd m (by omega)).1
        have g3 : ak_pk b i m * 32 + (b (i + m) - 96) = 0 := ak_lsign0.mp g2
        omega
      · rw [ak_wj (show j < 1000000 by omega)]
        exact ih (j + 1) (by omega)
  exact ak_MI_of m1 (am_k137_0 hu (lp z 0 (by omega)))
def ak_bl : Nat → Int := fun k => am_sL.getD k 0
theorem am_ld179 (hu : u = 0 ∨ u = 1) (A : ak_all us hc hm) (L : ak_LD u us hc hm) (k1 : hc.1 1 8 = 1) (k2 : hm.1 110 4 = 1) (r : ak_rr u us R hc hm) : ak_cI e (d + 2) [ak_T u, ρ1, ρ2, ak_T u, ak_T u + 1] 179 312 [am_i x0, am_i x1] hc hm [(0, 1), (2, 2)] R := by
  have rr := ak_RR_of hu A L k1 k2 r
  obtain ⟨h0, m0, b, n, m, Mt, z, S, O, B, T, sh, E, Et, G, φ, hr, lv, mt, Us, FR, tx, ag, ⟨hO, wd⟩, st, rm, jn⟩ := L
  have n1 : hc.1 1 8 ≠ 0 := by omega
  have n2 : hm.1 110 4 ≠ 0 := by omega
  obtain ⟨c1, c2, c3, c4⟩ := (ak_tx_now tx ag).2.1
  have us2 := A.1
  have hus := A.2.1
  have hT := ak_T_bd hu
  obtain ⟨N1, N2, N3, N4, N5, N6⟩ := tx.1.2.2.2.2.1
  have M := tx.1.2.1.1
  have C14 : ∀ k, hc.2.1 (ak_T u + 14) k = h0.2.1 (ak_T u + 14) k := fun k => (ag.1 _ k (by omega) (by omega)).2
  have gM := ag.2
  clear tx ag st rm jn r wd
  refine ak_MI_of (Nat.le_of_ble_eq_true rfl) (am_k179_0 hu (am_s192 hu (fun _ => ?_) (fun g => absurd g n1)))
  rw [c1]
  refine am_s193 hu (fun a b' => ?_) (fun a => ⟨2, by decide, ?_⟩)
  · obtain ⟨x, rfl⟩ : ∃ x : Nat, x0 = (x : Int) := ⟨x0.toNat, by omega⟩
    by_cases h0' : x = 0
    · subst h0'
      have run : ∀ v : Int, (x1 < 0 ∨ 4 ≤ x1 → v = 0) → (0 ≤ x1 → x1 < 4 → v = ak_bl x1.toNat) → ak_MI e 1 (d + 2) [ak_T u, ρ1, ρ2, ak_T u, ak_T u + 1] 312 [am_r 110, am_i ((0 : Nat) : Int), am_i x1] hm (fun b hm' => R hc hm' ∧ hm'.1 110 0 = 0 ∧ v = b) ak_F := by
        intro v q0 q1
        refine ak_MI_of (Nat.le_of_ble_eq_true rfl) (am_k312_0 ⟨fun _ => am_s309 hus us2 c2 (fun _ _ => ⟨fun _ => ⟨fun g => absurd rfl g, fun _ => ⟨fun g => ⟨rr.1, rfl, q0 (Or.inl g)⟩, fun g => ⟨fun g2 => ⟨by omega, ?_⟩, fun g2 => ⟨rr.1, rfl, q0 (by omega)⟩⟩⟩⟩, fun g => absurd g (by decide)⟩) (fun g => absurd b' (by omega)), fun g => absurd g n2⟩)
        rw [am_I1]
        exact ⟨rr.1, rfl, q1 g (by omega)⟩
      refine am_s137 (b := ak_bl) (i := 0) (z := 4) hu (by decide) ((C14 0).trans (N5.trans (by decide))) (by decide) (fun k hk => ?_) (fun g => run 0 (fun _ => rfl) (fun g1 g2 => absurd g (by omega))) (fun g1 g2 => run _ (fun g => absurd g (by omega)) (fun _ _ => by rw [Nat.zero_add]))
      have : k = 0 ∨ k = 1 ∨ k = 2 ∨ k = 3 := by omega
      rcases this with rfl | rfl | rfl | rfl <;> (unfold ak_isL; decide)
    · obtain ⟨i, z', w, v1, v2, v3⟩ := N6 x (by omega) (by omega)
      obtain ⟨z1, z8, iz, Lw⟩ := w
      have e132 := (gM 132 (100 * us + x) (by unfold ak_tmI; omega)).trans v1
      have e133 := (gM 133 (100 * us + x) (by unfold ak_tmI; omega)).trans v2
      have run : ∀ v : Int, (x1 < 0 ∨ (z' : Int) ≤ x1 → v = 0) → (0 ≤ x1 → x1 < (z' : Int) → v = b (i + x1.toNat)) → ak_MI e 1 (d + 2) [ak_T u, ρ1, ρ2, ak_T u, ak_T u + 1] 312 [am_r 110, am_i (x : Int), am_i x1] hm (fun b hm' => R hc hm' ∧ hm'.1 110 0 = 0 ∧ v = b) ak_F := by
        intro v q0 q1
        refine ak_MI_of (Nat.le_of_ble_eq_true rfl) (am_k312_0 ⟨fun _ => am_s309 hus us2 c2 (fun _ _ => ⟨fun _ => ⟨fun _ => ⟨fun g => ⟨rr.1, rfl, q0 (Or.inl g)⟩, fun g => ?_⟩, fun g => absurd g (by omega)⟩, fun g => absurd g (by decide)⟩) (fun g => absurd b' (by omega)), fun g => absurd g n2⟩)
        rw [hus, show am_w32 (am_w32 (100 * (us : Int)) + (x : Int)) = ((100 * us + x : Nat) : Int) from by
          rw [ak_w (100 * (us : Int)) (by omega), ak_w _ (by omega)]
          omega, ak_natn, e132, e133]
        have bi : 0 ≤ ((100 * us + x : Nat) : Int) ∧ ((100 * us + x : Nat) : Int) < 200 := by omega
        refine ⟨bi, fun g2 => ⟨bi, ?_⟩, fun g2 => ⟨rr.1, rfl, q0 (Or.inr g2)⟩⟩
        have hn := M.2.2.2.1
        have lt : i + x1.toNat < n := by omega
        rw [show am_w32 (am_w32 (am_w32 (6000 * (us : Int)) + (i : Int)) + x1) = ((6000 * us + (i + x1.toNat) : Nat) : Int) from by
          rw [ak_w (6000 * (us : Int)) (by omega), ak_w (6000 * (us : Int) + (i : Int)) (by omega), ak_w _ (by omega)]
          omega, ak_natn, gM 112 (6000 * us + (i + x1.toNat)) (by unfold ak_tmI; omega), (M.2.2.2.2.1 _ lt).1]
        have l := Lw x1.toNat (by omega)
        unfold ak_isL at l
        exact ⟨by omega, rr.1, rfl, (q1 g g2).trans (by omega)⟩
      exact am_s137 (b := b) (i := i) (z := z') hu (by omega) ((C14 x).trans v3) z8 Lw (fun g => run 0 (fun _ => rfl) (fun g1 g2 => absurd g (by omega))) (fun g1 g2 => run _ (fun g => absurd g (by omega)) (fun _ _ => rfl))
  · exact ak_MI_of (Nat.le_of_ble_eq_true rfl) (am_k312_0 ⟨fun _ => am_s309 hus us2 c2 (fun _ _ => absurd a (by omega)) (fun g => ⟨fun g => absurd rfl g, fun _ => am_s198 ⟨rr.2 2, rfl⟩⟩), fun g => absurd g n2⟩)
end NMB
