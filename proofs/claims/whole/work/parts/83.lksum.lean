/-! sums -/
section LKSUM
variable {e : ak_X3} {d u p : Nat} {b : Nat → Int} {n m lv o Mt : Nat} {D : Nat → Nat} {z z1 : Nat → Nat} {hc hm hc1 hm1 hc' hm' : ak_S} {ρ : List Nat}
theorem ak_WR_ext {z2 z3 : Nat → Nat} {D1 : Nat → Nat} {lv1 o1 Mt1 : Nat} (g0 : ak_PI u p b n m lv D o Mt z2 hc hm) (g1 : ak_PI u p b n m lv1 D1 o1 Mt1 z3 hc1 hm1) (ho : o ≤ o1) (e1 : ak_ext u p z z1 hc hm hc1 hm1) (w : ak_WR u p hc1 hm1 hc' hm') : ak_WR u p hc hm hc' hm' := by
  obtain ⟨w1, w2, w3, w4, w5, w6, w7, w8⟩ := w
  obtain ⟨-, -, -, e4, e5, -, -, -, e9, e10⟩ := e1
  have q0 := g0.2.2.2.1.1
  have q1 := g1.2.2.2.1.1
  refine ⟨w1, w2, ak_pC_trans e4 w3, ak_pM_trans e5 w4, w5, by omega, ?_, w8.trans e10⟩
  rw [w7]
  show (hc1.2.2.1 + 1, hc1.2.2.2 + 6) = (hc.2.2.1 + 1, hc.2.2.2 + 6)
  rw [e9]
theorem ak_WRs_ext {z2 z3 : Nat → Nat} {D1 : Nat → Nat} {lv1 o1 Mt1 : Nat} (g0 : ak_PI u p b n m lv D o Mt z2 hc hm) (g1 : ak_PI u p b n m lv1 D1 o1 Mt1 z3 hc1 hm1) (ho : o ≤ o1) (e1 : ak_ext u p z z1 hc hm hc1 hm1) (w : ak_WRs u p hc1 hm1 hc' hm') : ak_WRs u p hc hm hc' hm' := by
  obtain ⟨w1, w2, w3, w4, w5, w6, w7, w8⟩ := w
  obtain ⟨-, -, -, e4, e5, -, -, -, e9, e10⟩ := e1
  have q0 := g0.2.2.2.1.1
  have q1 := g1.2.2.2.1.1
  refine ⟨w1, w2, ak_pC_trans e4 w3, ak_pM_trans e5 w4, w5, by omega, ?_, w8.trans e10⟩
  rw [w7]
  show (hc1.2.2.1 + 1, hc1.2.2.2 + 6) = (hc.2.2.1 + 1, hc.2.2.2 + 6)
  rw [e9]
theorem ak_WRs_up {z2 z3 : Nat → Nat} {D1 : Nat → Nat} {lv1 o1 Mt1 : Nat} (g0 : ak_PI u p b n m lv D o Mt z2 hc hm) (g1 : ak_PI u p b n m lv1 D1 o1 Mt1 z3 hc1 hm1) (ho : o + 1 ≤ o1) (e1 : ak_ext u p z z1 hc hm hc1 hm1) (w : ak_WRs u p hc1 hm1 hc' hm') : ak_WR u p hc hm hc' hm' := by
  obtain ⟨w1, w2, w3, w4, w5, w6, w7, w8⟩ := w
  obtain ⟨-, -, -, e4, e5, -, -, -, e9, e10⟩ := e1
  have q0 := g0.2.2.2.1.1
  have q1 := g1.2.2.2.1.1
  refine ⟨w1, w2, ak_pC_trans e4 w3, ak_pM_trans e5 w4, w5, by omega, ?_, w8.trans e10⟩
  rw [w7]
  show (hc1.2.2.1 + 1, hc1.2.2.2 + 6) = (hc.2.2.1 + 1, hc.2.2.2 + 6)
  rw [e9]
theorem am_s223 {Q : Int → ak_S → Prop} {X : Nat → ak_S → Prop} {op a c : Int} {y : Nat} (hf : hm.1 110 37 < 0) (hp : hm.1 110 31 = (p : Int)) (hp2 : p < 2) (hz : hm.1 121 p = (y : Int)) (hy : y < 9000) (w : Q ((9000 * p + y : Nat) : Int) (ak_two (ak_node hm p y 11 0) (9000 * p + y) a c op)) :
    ak_MI e 1 (d + 2) ρ 223 [am_r 110, am_i op, am_i a, am_i c] hm Q X := by
  refine ak_MI_of (Nat.le_of_ble_eq_true rfl) (am_k223_0 (am_s206 (fun _ => ⟨fun _ => am_s212 hp hp2 hz hy ?_, fun q => absurd rfl q⟩) (fun q => absurd q (by omega))))
  rw [ak_natn]
  exact ⟨by omega, by omega, by omega, w⟩
theorem lk_sum {ρ0 ρ3 ρ4 t : Nat} (hu : u = 0 ∨ u = 1) (hE : ak_EX e u p b n m ρ0 ρ3 ρ4 ρ 37 225 11 11 t) : ak_EX e u p b n m ρ0 ρ3 ρ4 ρ 36 224 12 12 t := by
  intro lv D o Mt z hc hm d w pt ht
  have loop : ∀ (c : Nat) (z1 : Nat → Nat) (x1 : Int) (hc1 hm1 : ak_S) (nn : Nat), ak_XP 224 u p b n m lv D o Mt z hc hm z1 x1 hc1 hm1 → m ≤ z1 0 + c → nn + 1 ≤ z1 0 →
      (∀ (Q : Int → ak_S → Prop) (X : Nat → ak_S → Prop), ak_W0 e 1 (d + 20 * (20 - o) + 11) 224 ρ 5 [some (am_r 110), some (am_i x1), none] [] hm1 (ak_qi Q X) → ak_MI e 1 (d + 20 * (20 - o) + 12) ρ 224 [am_r 110] hm Q X) →
      ak_W0 e 0 (d + 20 * (20 - o) + 11) 36 [ρ0, ak_T u, ak_T u + 1, ρ3, ρ4] 7 [some (am_r 2), some (am_i (o : Int)), some (am_i (nn : Int)), none] [] hc1 (ak_qv (ak_XQ e ρ (d + 20 * (20 - o) + 12) 224 u p b n m lv D o Mt z hc hm) (ak_XX e ρ (d + 20 * (20 - o) + 12) 224 u p hc hm)) := by
    intro c
    induction c with
    | zero =>
      intro z1 x1 hc1 hm1 nn P1 hc0 hnn G
      obtain ⟨I1, l1, r1, e1, T1⟩ := P1
      have hkC := I1.1.2.2.2.2.1
      have tk := I1.2.1.2.2.1
      have h1m := I1.1.1.1
      have h6 := I1.1.1.2.1
      have h0 : ak_kd b n (ak_st b n (z1 0)) = 0 := by
        have e0 : z1 0 = m := by omega
        rw [e0, I1.1.1.2.2.1]
        unfold ak_kd
        rw [if_pos (by omega)]
      refine am_k36_7 hu ⟨fun q => absurd q (by omega), fun _ => ?_⟩
      rw [hkC, h0]
      refine ⟨fun q => absurd q (by decide), fun _ => ⟨fun _ => ⟨z1, x1, hm1, ⟨I1, l1, r1, e1, T1⟩, fun Q X q => G Q X (am_k224_5 (am_s206 (fun _ => ⟨fun q => absurd rfl q, fun _ => ?_⟩) (fun q => absurd q (by have := I1.2.2.1; omega))))⟩, fun q => absurd q (by decide)⟩⟩
      rw [tk, h0]
      exact ⟨fun q => absurd q (by decide), fun _ => ⟨fun _ => q, fun q => absurd q (by decide)⟩⟩
    | succ c ih =>
      intro z1 x1 hc1 hm1 nn P1 hc0 hnn G
      obtain ⟨I1, l1, r1, e1, T1⟩ := id P1
      have hkC := I1.1.2.2.2.2.1
      have tk := I1.2.1.2.2.1
      have hf := I1.2.2.1
      have h1m := I1.1.1.1
      have h6 := I1.1.1.2.1
      have hst := (ak_st_n I1).1
      have half : ∀ op r : Int, ak_kd b n (ak_st b n (z1 0)) = op → ak_opr op r → op ≠ 0 →
          (∀ (Q : Int → ak_S → Prop) (X : Nat → ak_S → Prop), ak_MV e 1 (d + 20 * (20 - o) + 11) ρ 205 [am_r 110] hm1 (fun h3 => ak_MI e 1 (d + 20 * (20 - o) + 11) ρ 225 [am_r 110] h3 (fun v5 h4 => ak_MI e 1 (d + 20 * (20 - o) + 11) ρ 223 [am_r 110, am_i op, am_i x1, am_i v5] h4 (fun v7 h6 =>
              ak_W0 e 1 (d + 20 * (20 - o) + 11) 224 ρ 5 [some (am_r 110), some (am_i v7), none] [] h6 (ak_qi Q X)) (fun _ _ => False)) (fun _ _ => False)) (fun _ _ => False) → ak_MI e 1 (d + 20 * (20 - o) + 12) ρ 224 [am_r 110] hm Q X) →
          ak_W0 e 0 (d + 20 * (20 - o) + 11) 36 [ρ0, ak_T u, ak_T u + 1, ρ3, ρ4] 57 [some (am_r 2), some (am_i (o : Int)), some (am_i (nn : Int)), none] [am_i r] hc1 (ak_qv (ak_XQ e ρ (d + 20 * (20 - o) + 12) 224 u p b n m lv D o Mt z hc hm) (ak_XX e ρ (d + 20 * (20 - o) + 12) 224 u p hc hm)) := by
        intro op r hop hor hne Gop
        have ham : z1 0 < m := ak_cc_lt I1.1 (by rw [hop]; exact hne)
        obtain ⟨hm2, ⟨M2, fr'⟩, rd⟩ := ak_MV_get (e := e) (r := 1) (d := d + 20 * (20 - o) + 11) (ρ := ρ) (am_rd (d := d + 20 * (20 - o) + 8) (X := ak_F) I1.2.1 hst (fun h' c f => (⟨c, f⟩ : ak_cm b n p h' (z1 0 + 1) ∧ ak_rfr hm1 h')))
        refine am_k36_57 hu (am_adv I1.1 ham (fun hc2 C2 fr => ?_))
        have I2 := ak_PI_step hu I1 C2 fr M2 fr'
        have pt2 := ak_POT_step I1.1 ham (ak_POT_REL pt r1)
        have es := ak_ext_step (p := p) (z := z1) hu fr fr'
        refine ak_MV_imp (hE lv D o Mt _ hc2 hm2 d I2 pt2 (show m ≤ z1 0 + 1 + t by omega)) (fun hc3 R => ?_) (fun ex hcx R => ?_)
        · obtain ⟨z3, x3, hm3, P3, go3⟩ := R
          have P4 := lk_bin hu ak_hx_224 pt P1 ham C2 fr M2 fr' P3 hor
          have l3 : z1 0 + 1 < z3 0 := P3.2.1
          have I3 := P3.1
          have rm := ak_room I3 (by decide) (ak_POT_REL pt2 P3.2.2.1)
          refine am_s3 hu I3.2.2.2.2.2.2.2.2.1 (by omega) ?_
          rw [ak_wj (show nn < 1000000 by omega)]
          refine ih _ _ _ _ (nn + 1) P4 (show m ≤ z3 0 + c by omega) (show nn + 1 + 1 ≤ z3 0 by omega) (fun Q X g => Gop Q X (rd _ _ (go3 _ _ (am_s223 I3.2.2.1 I3.2.1.1.1 I3.2.1.1.2.1 I3.2.2.2.2.2.2.2.2.2.1 (by omega) g))))
        · obtain ⟨hx, x3, hmx, wr, go3⟩ := R
          exact ⟨hx, -1, hmx, ak_WR_ext w I2 (Nat.le_refl _) (ak_ext_trans e1 es) wr, fun Q X q => Gop Q X (rd _ _ (go3 _ _ (am_w223 wr.1 (am_k224_5 (am_w206 wr.1 ⟨fun _ => q, fun q => absurd q (by decide)⟩)))))⟩
      refine am_k36_7 hu ⟨fun q => absurd q (by omega), fun _ => ?_⟩
      rw [hkC]
      refine ⟨fun q => ⟨fun q2 => absurd q q2, fun _ => half 43 9 q (Or.inl ⟨rfl, rfl⟩) (by decide) (fun Q X g => G Q X (am_k224_5 (am_s206 (fun _ => ⟨fun q => absurd rfl q, fun _ => ?_⟩) (fun q => absurd q (by omega)))))⟩, fun q => ⟨fun q2 => ⟨z1, x1, hm1, P1, fun Q X g => G Q X (am_k224_5 (am_s206 (fun _ => ⟨fun q => absurd rfl q, fun _ => ?_⟩) (fun q => absurd q (by omega))))⟩,
        fun q2 => ⟨fun _ => half 45 10 q2 (Or.inr (Or.inl ⟨rfl, rfl⟩)) (by decide) (fun Q X g => G Q X (am_k224_5 (am_s206 (fun _ => ⟨fun q => absurd rfl q, fun _ => ?_⟩) (fun q => absurd q (by omega))))), fun q3 => absurd q3 q⟩⟩⟩
      · rw [tk, q]
        exact ⟨fun _ => g, fun q => absurd rfl q⟩
      · rw [tk]
        exact ⟨fun q3 => absurd q3 q, fun _ => ⟨fun _ => g, fun q3 => absurd q3 q2⟩⟩
      · rw [tk, q2]
        exact ⟨fun q => absurd q (by decide), fun _ => ⟨fun q => absurd rfl q, fun _ => g⟩⟩
  refine ak_MV_of (Nat.le_of_ble_eq_true rfl) (am_k36_0 hu (ak_MV_imp (hE lv D o Mt z hc hm d w pt ht) (fun hc1 R => ?_) (fun ex hcx R => ?_)))
  · obtain ⟨z1, x1, hm1, P1, go1⟩ := R
    exact loop (m - z1 0) z1 x1 hc1 hm1 0 (ak_XP_up (Nat.le_of_succ_le ak_hx_224) P1) (by omega) (by have := P1.2.1; omega) (fun Q X g => ak_MI_of (Nat.le_of_ble_eq_true rfl) (am_k224_0 (go1 _ _ g)))
  · obtain ⟨hx, x1, hmx, wr, go1⟩ := R
    exact ⟨hx, x1, hmx, wr, fun Q X q => ak_MI_of (Nat.le_of_ble_eq_true rfl) (am_k224_0 (go1 _ _ (am_k224_5 (am_w206 wr.1 ⟨fun _ => q, fun q => absurd q (by decide)⟩))))⟩
end LKSUM
