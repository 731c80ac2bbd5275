/-! a comparison, or a sum alone -/
section LKEXP
variable {e : ak_X3} {d u p : Nat} {b : Nat → Int} {n m : Nat} {ρ : List Nat}
theorem lk_exp {ρ0 ρ3 ρ4 t : Nat} (hu : u = 0 ∨ u = 1) (hE : ak_EX e u p b n m ρ0 ρ3 ρ4 ρ 36 224 12 12 t) : ak_EX e u p b n m ρ0 ρ3 ρ4 ρ 34 222 13 13 t := by
  intro lv D o Mt z hc hm d w pt ht
  refine ak_MV_of (Nat.le_of_ble_eq_true rfl) (am_k34_0 hu (ak_MV_imp (hE lv D o Mt z hc hm d w pt ht) (fun hc1 R => ?_) (fun ex hcx R => ?_)))
  · obtain ⟨z1, x1, hm1, P0, go1⟩ := R
    have P1 := ak_XP_up (Nat.le_of_succ_le (ak_hx_222 (o := o))) P0
    obtain ⟨I1, l1, r1, e1, T1⟩ := id P1
    have hkC := I1.1.2.2.2.2.1
    have tk := I1.2.1.2.2.1
    have hf := I1.2.2.1
    have hst := (ak_st_n I1).1
    have G : ∀ {Q : Int → ak_S → Prop} {X : Nat → ak_S → Prop}, _ → ak_MI e 1 (d + 20 * (20 - o) + 13) ρ 222 [am_r 110] hm Q X := fun {Q X} g => ak_MI_of (Nat.le_of_ble_eq_true rfl) (am_k222_0 (go1 _ _ (am_s206 (fun _ => ⟨fun q => absurd rfl q, fun _ => g⟩) (fun q => absurd q (by omega)))))
    have half : ∀ op r : Int, ak_kd b n (ak_st b n (z1 0)) = op → ak_opr op r → op ≠ 0 →
        (∀ (Q : Int → ak_S → Prop) (X : Nat → ak_S → Prop), ak_MV e 1 (d + 20 * (20 - o) + 12) ρ 205 [am_r 110] hm1 (fun h3 => ak_MI e 1 (d + 20 * (20 - o) + 12) ρ 224 [am_r 110] h3 (fun v5 h4 => ak_MI e 1 (d + 20 * (20 - o) + 12) ρ 223 [am_r 110, am_i op, am_i x1, am_i v5] h4 (fun v7 h6 =>
            Q v7 h6) (fun _ _ => False)) (fun _ _ => False)) (fun _ _ => False) → ak_MI e 1 (d + 20 * (20 - o) + 13) ρ 222 [am_r 110] hm Q X) →
        ak_MV e 0 (d + 20 * (20 - o) + 12) [ρ0, ak_T u, ak_T u + 1, ρ3, ρ4] 128 [am_r 3] hc1 (fun h4 => ak_MV e 0 (d + 20 * (20 - o) + 12) [ρ0, ak_T u, ak_T u + 1, ρ3, ρ4] 36 [am_r 2, am_i (o : Int)] h4 (fun h5 =>
            ak_MI e 0 (d + 20 * (20 - o) + 12) [ρ0, ak_T u, ak_T u + 1, ρ3, ρ4] 3 [am_r (ak_T u + 1), am_i r, am_i 0] h5 (fun v7 h6 => ak_XQ e ρ (d + 20 * (20 - o) + 13) 222 u p b n m lv D o Mt z hc hm h6) (fun _ _ => False)) (ak_XX e ρ (d + 20 * (20 - o) + 13) 222 u p hc hm)) (fun _ _ => False) := by
      intro op r hop hor hne Gop
      have ham : z1 0 < m := ak_cc_lt I1.1 (by rw [hop]; exact hne)
      obtain ⟨hm2, ⟨M2, fr'⟩, rd⟩ := ak_MV_get (e := e) (r := 1) (d := d + 20 * (20 - o) + 12) (ρ := ρ) (am_rd (d := d + 20 * (20 - o) + 9) (X := ak_F) I1.2.1 hst (fun h' c f => (⟨c, f⟩ : ak_cm b n p h' (z1 0 + 1) ∧ ak_rfr hm1 h')))
      refine am_adv I1.1 ham (fun hc2 C2 fr => ?_)
      have I2 := ak_PI_step hu I1 C2 fr M2 fr'
      have pt2 := ak_POT_step I1.1 ham (ak_POT_REL pt r1)
      have es := ak_ext_step (p := p) (z := z1) hu fr fr'
      refine ak_MV_imp (hE lv D o Mt _ hc2 hm2 d I2 pt2 (show m ≤ z1 0 + 1 + t by omega)) (fun hc3 R => ?_) (fun ex hcx R => ?_)
      · obtain ⟨z3, x3, hm3, P3, go3⟩ := R
        have P4 := lk_bin hu ak_hx_222 pt P1 ham C2 fr M2 fr' P3 hor
        have I3 := P3.1
        have rm := ak_room I3 (by decide) (ak_POT_REL pt2 P3.2.2.1)
        exact am_s3 hu I3.2.2.2.2.2.2.2.2.1 (by omega) ⟨_, _, _, P4, fun Q X g => Gop Q X (rd _ _ (go3 _ _ (am_s223 I3.2.2.1 I3.2.1.1.1 I3.2.1.1.2.1 I3.2.2.2.2.2.2.2.2.2.1 (by omega) g)))⟩
      · obtain ⟨hx, x3, hmx, wr, go3⟩ := R
        exact ⟨hx, -1, hmx, ak_WR_ext w I2 (Nat.le_refl _) (ak_ext_trans e1 es) wr, fun Q X q => Gop Q X (rd _ _ (go3 _ _ (am_w223 wr.1 q)))⟩
    refine ak_MI_of (Nat.le_of_ble_eq_true rfl) (am_k35_0 hu ?_)
    rw [hkC]
    refine ⟨trivial, fun q => ⟨fun _ => ⟨z1, x1, hm1, P1, fun Q X g => G ?_⟩, fun q2 => absurd q2 (by decide)⟩, fun q => ⟨fun q2 => absurd q2 (by decide), fun _ => half 4 16 q (Or.inr (Or.inr (Or.inr (Or.inr (Or.inr (Or.inr (Or.inr ⟨rfl, rfl⟩))))))) (by decide) (fun Q X g => G ?_)⟩,
      fun q => ⟨fun q2 => absurd q2 (by decide), fun _ => half 60 14 q (Or.inr (Or.inr (Or.inr (Or.inr (Or.inr (Or.inl ⟨rfl, rfl⟩)))))) (by decide) (fun Q X g => G ?_)⟩, fun q => ⟨fun q2 => absurd q2 (by decide), fun _ => half 62 15 q (Or.inr (Or.inr (Or.inr (Or.inr (Or.inr (Or.inr (Or.inl ⟨rfl, rfl⟩))))))) (by decide) (fun Q X g => G ?_)⟩, trivial⟩
    · rw [tk]
      exact ⟨fun q2 => absurd q2 q.2.1, fun _ => ⟨fun q2 => absurd q2 q.2.2.1, fun _ => ⟨fun q2 => absurd q2 q.1, fun _ => g⟩⟩⟩
    · rw [tk, q]
      exact ⟨fun q2 => absurd q2 (by decide), fun _ => ⟨fun q2 => absurd q2 (by decide), fun _ => ⟨fun _ => g, fun q2 => absurd rfl q2⟩⟩⟩
    · rw [tk, q]
      exact ⟨fun _ => g, fun q2 => absurd rfl q2⟩
    · rw [tk, q]
      exact ⟨fun q2 => absurd q2 (by decide), fun _ => ⟨fun _ => g, fun q2 => absurd rfl q2⟩⟩
  · obtain ⟨hx, x1, hmx, wr, go1⟩ := R
    exact ⟨hx, x1, hmx, wr, fun Q X q => ak_MI_of (Nat.le_of_ble_eq_true rfl) (am_k222_0 (go1 _ _ (am_w206 wr.1 ⟨fun _ => q, fun q => absurd q (by decide)⟩)))⟩
end LKEXP
