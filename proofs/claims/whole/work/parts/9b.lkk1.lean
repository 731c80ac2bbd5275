/-! return, answer, write -/
section LKK1
variable {e : ak_X3} {d u p : Nat} {b : Nat → Int} {n m lv o Mt : Nat} {D : Nat → Nat} {z : Nat → Nat} {hc hm : ak_S} {ρ : List Nat}
theorem ak_X_in {P : Prop} {k : Int} {v : Int} (h : v = k) (g : P) : (v ≠ k → False) ∧ P := ⟨fun q => q h, g⟩
theorem lk_leave {ρ0 ρ3 ρ4 t : Nat} {kd nk r : Int} (hu : u = 0 ∨ u = 1) (hE : ak_EX e u p b n m ρ0 ρ3 ρ4 ρ 34 222 13 13 t) (w : ak_PI u p b n m lv D o Mt z hc hm) (pt : ak_POT b n o 1 z) (ht : m ≤ z 0 + t) (hk : ak_kd b n (ak_st b n (z 0)) = kd)
    (hr : (kd = 205 ∧ nk = 31 ∧ r = (if lv = 0 then 33 else 32)) ∨ (kd = 206 ∧ nk = 32 ∧ r = 33) ∨ (kd = 207 ∧ nk = 33 ∧ r = 29)) :
    ak_MV e 0 (d + 20 * (20 - o) + 24) [ρ0, ak_T u, ak_T u + 1, ρ3, ρ4] 30 [am_r 2, am_i kd, am_i (o : Int)] hc (ak_KQ e ρ (d + 20 * (20 - o) + 25) u p b n m lv D o Mt z hc hm) (ak_XX e ρ (d + 20 * (20 - o) + 25) 233 u p hc hm) := by
  have tk : hm.1 110 33 = kd := w.2.1.2.2.1.trans hk
  have p34 := w.2.1.2.2.2.1
  have hp := w.2.1.1.1
  have hp2 := w.2.1.1.2.1
  have rm := ak_room w (by decide) pt
  have run0 : ∀ (Q : Int → ak_S → Prop) (X : Nat → ak_S → Prop), ak_W0 e 1 (d + 20 * (20 - o) + 24) 233 ρ 578 [some (am_r 110), some (am_i ((ak_st b n (z 0) : Nat) : Int)), none, none, none, none, none, none] [am_i nk, am_r 110] hm (ak_qi Q X) → ak_MI e 1 (d + 20 * (20 - o) + 25) ρ 233 [am_r 110] hm Q X := by
    intro Q X g
    refine ak_MI_of (Nat.le_of_ble_eq_true rfl) (am_k233_0 ?_)
    rw [tk, p34]
    rcases hr with ⟨rfl, rfl, -⟩ | ⟨rfl, rfl, -⟩ | ⟨rfl, rfl, -⟩
    · exact ⟨trivial, fun q => absurd q (by decide), fun q => absurd q (by decide), fun q => absurd q (by decide), fun q => absurd q (by decide), fun q => absurd q (by decide), fun _ => ⟨fun q => absurd rfl q, fun _ => g⟩, fun q => absurd q (by decide), fun q => absurd q (by decide), fun q => absurd q (by decide), fun q => absurd q (by decide), fun q => absurd q (by decide), fun q => absurd q (by decide), fun q => absurd q (by decide), fun q => absurd q (by decide), fun q => absurd q (by decide), fun q => absurd q (by decide), fun q => absurd q (by decide), fun q => absurd q (by decide), trivial⟩
    · exact ⟨trivial, fun q => absurd q (by decide), fun q => absurd q (by decide), fun q => absurd q (by decide), fun q => absurd q (by decide), fun q => absurd q (by decide), fun q => absurd q (by decide), fun _ => ⟨fun _ => ⟨fun q => absurd rfl q, fun _ => g⟩, fun q => absurd q (by decide)⟩, fun q => absurd q (by decide), fun q => absurd q (by decide), fun q => absurd q (by decide), fun q => absurd q (by decide), fun q => absurd q (by decide), fun q => absurd q (by decide), fun q => absurd q (by decide), fun q => absurd q (by decide), fun q => absurd q (by decide), fun q => absurd q (by decide), fun q => absurd q (by decide), trivial⟩
    · exact ⟨trivial, fun q => absurd q (by decide), fun q => absurd q (by decide), fun q => absurd q (by decide), fun q => absurd q (by decide), fun q => absurd q (by decide), fun q => absurd q (by decide), fun q => absurd q (by decide), fun _ => ⟨fun _ => ⟨fun _ => g, fun q => absurd q (by decide)⟩, fun q => absurd q (by decide)⟩, fun q => absurd q (by decide), fun q => absurd q (by decide), fun q => absurd q (by decide), fun q => absurd q (by decide), fun q => absurd q (by decide), fun q => absurd q (by decide), fun q => absurd q (by decide), fun q => absurd q (by decide), fun q => absurd q (by decide), fun q => absurd q (by decide), trivial⟩
  have bv : 0 ≤ ((9000 * p + z 2 : Nat) : Int) ∧ ((9000 * p + z 2 : Nat) : Int) < 18000 := by omega
  have run : ∀ (Q : Int → ak_S → Prop) (X : Nat → ak_S → Prop), ak_MV e 1 (d + 20 * (20 - o) + 24) ρ 205 [am_r 110] (ak_node hm p (z 2) nk ((ak_st b n (z 0) : Nat) : Int)) (fun h3 =>
      ak_MI e 1 (d + 20 * (20 - o) + 24) ρ 222 [am_r 110] h3 (fun v5 h4 =>
        ak_MV e 1 (d + 20 * (20 - o) + 24) ρ 209 [am_r 110, am_i 59] ((am_up h4.1 115 (9000 * p + z 2) v5), h4.2) (fun h6 =>
          Q ((9000 * p + z 2 : Nat) : Int) h6) (fun _ _ => False)) (fun _ _ => False)) (fun _ _ => False) → ak_MI e 1 (d + 20 * (20 - o) + 25) ρ 233 [am_r 110] hm Q X := by
    intro Q X g
    refine run0 Q X (am_k233_578 (am_s212 hp hp2 w.2.2.2.2.2.2.2.2.2.1 (by omega) (ak_MV_imp g (fun h3 g2 => ak_MI_imp g2 (fun v5 h4 g3 => ⟨bv, ?_⟩) (fun _ _ q => q)) (fun _ _ q => q))))
    rw [ak_natn]
    exact g3
  -- both
  have w1 := ak_PI_node hu w (k := nk) (r := ((ak_st b n (z 0) : Nat) : Int))
  have e1 : ak_ext u p z (ak_zu z 2 (z 2 + 1)) hc hm hc (ak_node hm p (z 2) nk ((ak_st b n (z 0) : Nat) : Int)) := ak_ext_node (by omega)
  have n1 : ak_nd (ak_node hm p (z 2) nk ((ak_st b n (z 0) : Nat) : Int)) (9000 * p + z 2) nk (-1) (-1) (-1) (-1) (-1) ((ak_st b n (z 0) : Nat) : Int) := ak_nd_new
  refine ak_MV_of (Nat.le_of_ble_eq_true rfl) (am_k30_0 hu (lk_adv (dm := d + 20 * (20 - o) + 21) (ρ := ρ) hu w1 (show ak_kd b n (ak_st b n (z 0)) ≠ 0 by omega) (fun hc2 hm2 I2 fr fr' e2 su rd => ?_)))
  have su' : ak_st b n (z 0) + 1 ≤ ak_st b n (z 0 + 1) := su
  have n2 := ak_nd_ext e2 (show z 2 < z 2 + 1 by omega) n1
  have e12 := ak_ext_trans e1 e2
  have pt2 : ak_POT b n o 2 (ak_zu (ak_zu z 2 (z 2 + 1)) 0 (z 0 + 1)) := by
    unfold ak_POT at pt ⊢
    show 2 * z 1 ≤ 3 * ak_st b n (z 0 + 1) + z 5 + 10 * o + 3 * 2 ∧ z 2 + 1 ≤ ak_st b n (z 0 + 1) + 2 * o + 2 ∧ 13 * z 3 ≤ ak_st b n (z 0 + 1) + 13 * o ∧ 6 * z 4 ≤ ak_st b n (z 0 + 1)
    omega
  refine ak_MV_imp (lk_e (dd := d + 20 * (20 - o) + 23) (by omega) hE I2 pt2 (show m ≤ z 0 + 1 + t by omega)) (fun hc3 R => ?_) (fun ex hcx R => ?_)
  · obtain ⟨z3, x, hm3, ⟨I3, l3, r3, e3, T3⟩, go3⟩ := R
    have le3 := ak_ext_le e3
    have le3' : z 2 + 1 ≤ z3 2 := le3.2.2.1
    have le31 : z 1 ≤ z3 1 := le3.2.1
    have l3' : z 0 + 1 < z3 0 := l3
    have r3' : 2 * z3 1 + 1 + 3 * ak_st b n (z 0 + 1) + z 5 ≤ 2 * z 1 + 3 * ak_st b n (z3 0) + z3 5 ∧ z3 2 + ak_st b n (z 0 + 1) ≤ z 2 + 1 + ak_st b n (z3 0) ∧ 13 * z3 3 + ak_st b n (z 0 + 1) ≤ 13 * z 3 + ak_st b n (z3 0) ∧ 6 * z3 4 + ak_st b n (z 0 + 1) ≤ 6 * z 4 + ak_st b n (z3 0) := r3
    have rm3 := ak_room I3 (by decide) (ak_POT_REL pt2 r3)
    have I3c := ak_PI_cell hu I3 (q := 115) (k := 9000 * p + z 2) (v := x) (Or.inl (by decide))
    have n3 := ak_nd_115 (v := x) (ak_nd_ext e3 (show z 2 < z 2 + 1 by omega) n2)
    have e3c := ak_ext_cell (ak_ext_trans e12 e3) (q := 115) (k := 9000 * p + z 2) (v := x) (by decide) (Nat.le_refl _) (by omega)
    have k3 : ak_mid u p (ak_zu (ak_zu z 2 (z 2 + 1)) 0 (z 0 + 1)) z3 hc3 hm3 z3 hc3 (am_up hm3.1 115 (9000 * p + z 2) x, hm3.2) := ak_mid_cell ak_mid_refl (by decide) (Or.inl (show 9000 * p + z 2 < 9000 * p + (z 2 + 1) by omega))
    refine lk_pass2 (dm := d + 20 * (20 - o) + 20) (ρ := ρ) hu (by decide) I3c (by omega) (fun hc4 hm4 _ I4 e4 su4 ps => ?_) (fun wr ps => ?_)
    · have k4 := ak_mid_ext k3 e4
      have n4 := ak_nd_ext e4 (show z 2 < z3 2 by omega) n3
      have e04 := ak_ext_trans e3c e4
      have I5 := ak_PI_put hu I4 (r := r) (x := 0)
      have e5 : ak_ext u p (ak_zu z3 0 (z3 0 + 1)) (ak_zu (ak_zu z3 0 (z3 0 + 1)) 1 (z3 1 + 1)) hc4 hm4 (ak_put hc4 u (z3 1) r 0) hm4 := ak_ext_put hu
      have k5 := ak_mid_ext k4 e5
      have n5 := ak_nd_ext e5 (show z 2 < z3 2 by omega) n4
      have e05 := ak_ext_trans e04 e5
      have su4' : ak_st b n (z3 0) + 1 ≤ ak_st b n (z3 0 + 1) := su4
      have fin : ak_KQ e ρ (d + 20 * (20 - o) + 25) u p b n m lv D o Mt z hc hm (ak_put hc4 u (z3 1) r 0) := by
        refine ⟨D, _, z 2, hm4, ⟨I5, show z 0 < z3 0 + 1 by omega, ?_, e05, fun _ _ => rfl, Nat.le_refl _, show z 2 < z3 2 by omega, n5.2.2.2.2.2.1, n5.2.2.2.2.2.2, fun C M ft => ?_⟩, fun Q X g => run Q X (rd _ _ (go3 _ _ (ps _ _ g)))⟩
        · show 2 * (z3 1 + 1) + 2 + 3 * ak_st b n (z 0) + z 5 ≤ 2 * z 1 + 3 * ak_st b n (z3 0 + 1) + z3 5 ∧ z3 2 + ak_st b n (z 0) ≤ z 2 + ak_st b n (z3 0 + 1) ∧ 13 * z3 3 + ak_st b n (z 0) ≤ 13 * z 3 + ak_st b n (z3 0 + 1) ∧ 6 * z3 4 + ak_st b n (z 0) ≤ 6 * z 4 + ak_st b n (z3 0 + 1)
          omega
        · have f3 := ak_mid_fut k5 ft (show z 1 ≤ z 1 ∧ z 2 ≤ z 2 + 1 ∧ z 3 ≤ z 3 ∧ z 4 ≤ z 4 ∧ z 5 ≤ z 5 by omega) (show z 4 ≤ z3 4 from le3.2.2.2.2.1) (Or.inl (show ((9000 * p + z 2 : Nat) : Int) < ((9000 * p + (z 2 + 1) : Nat) : Int) by omega))
          obtain ⟨m1, m2, m3, m4, m5, m6⟩ := ak_nd_M n5 ft (Nat.le_refl _) (show z 2 < z3 2 by omega)
          have c2 := (ft.1.1 (z3 1) le31 (Nat.lt_succ_self _)).1.trans ak_put_2
          have t0 : ak_X0 C M (ak_T u) p (ak_hx 222 o) (z3 2 - (z 2 + 1)) x (ak_lt Mt lv) (z 1) (z3 1) := T3 C M f3
          intro Gd i hG hG2 hi
          have hi' : z3 2 - z 2 + 21 ≤ i + o := hi
          have ho := (ak_st_n w).2.2.1
          have h32 : z 2 < z3 2 := by omega
          have rx := fun (y : Int) (t : ak_X0 C M (ak_T u) p (ak_hx 222 o) (z3 2 - (z 2 + 1)) y (ak_lt Mt lv) (z 1) (z3 1)) => ak_RX_mk (G := Gd) (i := i) t (ak_lt_lt w) ak_hx_150 (by omega)
          rw [← m2] at t0
          rcases hr with ⟨-, h2, h3⟩ | ⟨-, h2, h3⟩ | ⟨-, h2, h3⟩
          · exact ak_T3_fold ⟨_, rfl, Or.inr (Or.inr (Or.inr (Or.inr (Or.inr (Or.inr (Or.inr (Or.inr (Or.inr (Or.inr (Or.inl ⟨m1.trans h2, z3 1, rx _ t0, by rw [ak_lt_lv w]; exact c2.trans h3, rfl⟩))))))))))⟩
          · exact ak_T3_fold ⟨_, rfl, Or.inr (Or.inr (Or.inr (Or.inr (Or.inr (Or.inr (Or.inr (Or.inr (Or.inr (Or.inr (Or.inr (Or.inl ⟨m1.trans h2, z3 1, rx _ t0, c2.trans h3, rfl⟩)))))))))))⟩
          · exact ak_T3_fold ⟨_, rfl, Or.inr (Or.inr (Or.inr (Or.inr (Or.inr (Or.inr (Or.inr (Or.inr (Or.inr (Or.inr (Or.inr (Or.inr (Or.inl ⟨m1.trans h2, z3 1, rx _ t0, c2.trans h3, rfl⟩))))))))))))⟩
      have sz := I4.2.2.2.2.2.2.2.2.1
      have hlv := I4.2.2.2.2.1.1
      rcases hr with ⟨h1, h2, h3⟩ | ⟨h1, h2, h3⟩ | ⟨h1, h2, h3⟩
      · subst h1
        refine ⟨fun _ => ⟨fun q => absurd rfl q, fun _ => ⟨fun q => ?_, fun q => ?_⟩⟩, fun q => absurd q (by decide)⟩
        · have : r = 33 := by
            rw [h3, if_pos (by omega)]
          subst this
          exact am_s3 hu sz (show z3 1 < 9600 by omega) fin
        · have : r = 32 := by
            rw [h3, if_neg (by omega)]
          subst this
          exact am_s3 hu sz (show z3 1 < 9600 by omega) fin
      · subst h1
        subst h3
        exact ⟨fun _ => ⟨fun _ => am_s3 hu sz (show z3 1 < 9600 by omega) fin, fun q => absurd q (by decide)⟩, fun q => absurd q (by decide)⟩
      · subst h1
        subst h3
        exact ⟨fun q => absurd rfl q, fun _ => am_s3 hu sz (show z3 1 < 9600 by omega) fin⟩
    · exact ⟨rfl, _, _, ak_WR_ext w I3c (Nat.le_refl _) e3c wr, fun Q X g => run Q X (rd _ _ (go3 _ _ (ps _ _ g)))⟩
  · obtain ⟨hx, x, hmx, wr, go3⟩ := R
    have wr1 := ak_WR_cell (ak_WR_ext w I2 (Nat.le_refl _) e12 wr) (q := 115) (k := 9000 * p + z 2) (v := x) (by decide) (by omega) (by omega)
    exact ⟨hx, _, _, wr1, fun Q X g => run Q X (rd _ _ (go3 _ _ (am_s209w wr1.1 g)))⟩
end LKK1
