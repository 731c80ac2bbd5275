/-! drop and give, both sides at once -/
section LKDROP
variable {e : ak_X3} {d dd dm u p : Nat} {b : Nat → Int} {n m lv o Mt : Nat} {D : Nat → Nat} {z : Nat → Nat} {hc hm : ak_S} {ρ : List Nat}
/-- the first word read on, a node, an expression in it, a comma -/
theorem lk_second {ρ0 ρ3 ρ4 t : Nat} {nk : Int} {Q : ak_S → Prop} {X Y : Nat → ak_S → Prop} (hu : u = 0 ∨ u = 1) (hd : 20 * (20 - o) + 13 ≤ dd + 2) (hE : ak_EX e u p b n m ρ0 ρ3 ρ4 ρ 34 222 13 13 t) (w : ak_PI u p b n m lv D o Mt z hc hm) (pt : ak_POT b n o 1 z) (ht : m ≤ z 0 + t) (hk : ak_kd b n (ak_st b n (z 0)) ≠ 0)
    (ok : ∀ (z3 : Nat → Nat) (x : Int) (hc4 hm4 : ak_S), (∀ (P : ak_S → Prop) (X : Nat → ak_S → Prop), P hm4 → ak_MV e 1 (dd + 3) ρ 205 [am_r 110] hm (fun h1 => ak_MI e 1 (dd + 3) ρ 212 [am_r 110, am_i nk, am_i ((ak_st b n (z 0) : Nat) : Int)] h1 (fun v h2 => v = ((9000 * p + z 2 : Nat) : Int) ∧ ak_MI e 1 (dd + 3) ρ 222 [am_r 110] h2 (fun v3 h3 => ak_MV e 1 (dd + 3) ρ 209 [am_r 110, am_i 44] (am_up h3.1 115 (9000 * p + z 2) v3, h3.2) P (fun _ _ => False)) (fun _ _ => False)) (fun _ _ => False)) (fun _ _ => False)) →
      ak_PI u p b n m lv D o Mt (ak_zu z3 0 (z3 0 + 1)) hc4 hm4 → z 0 + 1 < z3 0 →
      (2 * z3 1 + 4 + 3 * ak_st b n (z 0) + z 5 ≤ 2 * z 1 + 3 * ak_st b n (z3 0) + z3 5 ∧ z3 2 + ak_st b n (z 0) ≤ z 2 + ak_st b n (z3 0) ∧ 13 * z3 3 + 1 + ak_st b n (z 0) ≤ 13 * z 3 + ak_st b n (z3 0) ∧ 6 * z3 4 + 1 + ak_st b n (z 0) ≤ 6 * z 4 + ak_st b n (z3 0)) → ak_st b n (z3 0) + 1 ≤ ak_st b n (z3 0 + 1) → z 2 < z3 2 →
      ak_ext u p z (ak_zu z3 0 (z3 0 + 1)) hc hm hc4 hm4 → ak_sub u p (ak_PX u p (ak_hx 222 o) x (ak_lt Mt lv)) (ak_zu (ak_zu z 0 (z 0 + 1)) 2 (z 2 + 1)) z3 (ak_zu z3 0 (z3 0 + 1)) hc4 hm4 → ak_nd hm4 (9000 * p + z 2) nk x (-1) (-1) (-1) (-1) ((ak_st b n (z 0) : Nat) : Int) → Q hc4)
    (bad : ∀ (hcx hmx : ak_S), (∀ (P : ak_S → Prop) (X : Nat → ak_S → Prop), P hmx → ak_MV e 1 (dd + 3) ρ 205 [am_r 110] hm (fun h1 => ak_MI e 1 (dd + 3) ρ 212 [am_r 110, am_i nk, am_i ((ak_st b n (z 0) : Nat) : Int)] h1 (fun v h2 => v = ((9000 * p + z 2 : Nat) : Int) ∧ ak_MI e 1 (dd + 3) ρ 222 [am_r 110] h2 (fun v3 h3 => ak_MV e 1 (dd + 3) ρ 209 [am_r 110, am_i 44] (am_up h3.1 115 (9000 * p + z 2) v3, h3.2) P (fun _ _ => False)) (fun _ _ => False)) (fun _ _ => False)) (fun _ _ => False)) → ak_WR u p hc hm hcx hmx → X 0 hcx) :
    ak_MV e 0 (dd + 2) [ρ0, ak_T u, ak_T u + 1, ρ3, ρ4] 128 [am_r 3] hc (fun h1 => ak_MV e 0 (dd + 2) [ρ0, ak_T u, ak_T u + 1, ρ3, ρ4] 34 [am_r 2, am_i (o : Int)] h1 (fun h2 => ak_MV e 0 (dd + 2) [ρ0, ak_T u, ak_T u + 1, ρ3, ρ4] 11 [am_r 2, am_i 44] h2 (fun h3 => Q h3) X) X) Y := by
  have rm := ak_room w (by decide) pt
  obtain ⟨d0, rfl⟩ : ∃ d0, dd = d0 + 11 := ⟨dd - 11, by omega⟩
  refine lk_adv (dm := d0 + 11) (ρ := ρ) hu w hk (fun hc1 hm1 I1 fr fr' e1 su rd => ?_)
  have su' : ak_st b n (z 0) + 1 ≤ ak_st b n (z 0 + 1) := su
  have hp2 := w.2.1.1.2.1
  have I2 := ak_PI_node hu I1 (k := nk) (r := ((ak_st b n (z 0) : Nat) : Int))
  have e2 : ak_ext u p (ak_zu z 0 (z 0 + 1)) (ak_zu (ak_zu z 0 (z 0 + 1)) 2 (z 2 + 1)) hc1 hm1 hc1 (ak_node hm1 p (z 2) nk ((ak_st b n (z 0) : Nat) : Int)) := ak_ext_node (show z 2 < 9000 by omega)
  have e02 := ak_ext_trans e1 e2
  have n2 : ak_nd (ak_node hm1 p (z 2) nk ((ak_st b n (z 0) : Nat) : Int)) (9000 * p + z 2) nk (-1) (-1) (-1) (-1) (-1) ((ak_st b n (z 0) : Nat) : Int) := ak_nd_new
  have pt2 : ak_POT b n o 2 (ak_zu (ak_zu z 0 (z 0 + 1)) 2 (z 2 + 1)) := by
    unfold ak_POT at pt ⊢
    show 2 * z 1 ≤ 3 * ak_st b n (z 0 + 1) + z 5 + 10 * o + 3 * 2 ∧ z 2 + 1 ≤ ak_st b n (z 0 + 1) + 2 * o + 2 ∧ 13 * z 3 ≤ ak_st b n (z 0 + 1) + 13 * o ∧ 6 * z 4 ≤ ak_st b n (z 0 + 1)
    omega
  have base : ∀ (P : ak_S → Prop) (X : Nat → ak_S → Prop), ak_MI e 1 (d0 + 11 + 3) ρ 222 [am_r 110] (ak_node hm1 p (z 2) nk ((ak_st b n (z 0) : Nat) : Int)) (fun v3 h3 => ak_MV e 1 (d0 + 11 + 3) ρ 209 [am_r 110, am_i 44] (am_up h3.1 115 (9000 * p + z 2) v3, h3.2) P (fun _ _ => False)) (fun _ _ => False) →
      ak_MV e 1 (d0 + 11 + 3) ρ 205 [am_r 110] hm (fun h1 => ak_MI e 1 (d0 + 11 + 3) ρ 212 [am_r 110, am_i nk, am_i ((ak_st b n (z 0) : Nat) : Int)] h1 (fun v h2 => v = ((9000 * p + z 2 : Nat) : Int) ∧ ak_MI e 1 (d0 + 11 + 3) ρ 222 [am_r 110] h2 (fun v3 h3 => ak_MV e 1 (d0 + 11 + 3) ρ 209 [am_r 110, am_i 44] (am_up h3.1 115 (9000 * p + z 2) v3, h3.2) P (fun _ _ => False)) (fun _ _ => False)) (fun _ _ => False)) (fun _ _ => False) :=
    fun P X g => rd _ _ (am_s212 I1.2.1.1.1 hp2 I1.2.2.2.2.2.2.2.2.2.1 (show z 2 < 9000 by omega) ⟨rfl, g⟩)
  refine lk_ecell (q := 115) (y := z 2) (dd := d0 + 11 + 2) hu (by decide) hd hE I2 pt2 (show m ≤ z 0 + 1 + t by omega) (show z 2 < z 2 + 1 by omega) (fun z3 x hc3 hm3 I3 l3 r3 pt3 rm3 e3 s3 go3 => ?_) (fun hcx x hmx wr go3 => ?_)
  · have le3 := ak_ext_le e3
    have le32 : z 2 + 1 ≤ z3 2 := le3.2.2.1
    have l3' : z 0 + 1 < z3 0 := l3
    have r3' : 2 * z3 1 + 1 + 3 * ak_st b n (z 0 + 1) + z 5 ≤ 2 * z 1 + 3 * ak_st b n (z3 0) + z3 5 ∧ z3 2 + ak_st b n (z 0 + 1) ≤ z 2 + 1 + ak_st b n (z3 0) ∧ 13 * z3 3 + ak_st b n (z 0 + 1) ≤ 13 * z 3 + ak_st b n (z3 0) ∧ 6 * z3 4 + ak_st b n (z 0 + 1) ≤ 6 * z 4 + ak_st b n (z3 0) := r3
    have n3 := ak_nd_115 (v := x) (ak_nd_ext e3 (show z 2 < z 2 + 1 by omega) n2)
    have e3c := ak_ext_cell (ak_ext_trans e02 e3) (q := 115) (k := 9000 * p + z 2) (v := x) (by decide) (Nat.le_refl _) (by omega)
    refine lk_pass2 (dm := d0 + 10) (ρ := ρ) hu (by decide) I3 (by omega) (fun hc4 hm4 _ I4 e4 su4 ps => ?_) (fun wr ps => ?_)
    · exact ok z3 x hc4 hm4 (fun P X g => base P X (go3 _ _ (ps _ _ g))) I4 l3' (by omega) su4 (by omega) (ak_ext_trans e3c e4) (ak_sub_ext s3 e4) (ak_nd_ext e4 (show z 2 < z3 2 by omega) n3)
    · exact bad _ _ (fun P X g => base P X (go3 _ _ (ps _ _ g))) (ak_WR_ext w I3 (Nat.le_refl _) e3c wr)
  · exact bad _ _ (fun P X g => base P X (go3 _ _ (am_s209w wr.1 g))) (ak_WR_ext w I2 (Nat.le_refl _) e02 wr)
theorem lk_drop {ρ0 ρ3 ρ4 t : Nat} (hu : u = 0 ∨ u = 1) (hE : ak_EX e u p b n m ρ0 ρ3 ρ4 ρ 34 222 13 13 t) (w : ak_PI u p b n m lv D o Mt z hc hm) (pt : ak_POT b n o 1 z) (ht : m ≤ z 0 + t) (hk : ak_kd b n (ak_st b n (z 0)) = 215) :
    ak_MV e 0 (d + 20 * (20 - o) + 24) [ρ0, ak_T u, ak_T u + 1, ρ3, ρ4] 26 [am_r 2, am_i 215, am_i (o : Int)] hc (ak_KQ e ρ (d + 20 * (20 - o) + 25) u p b n m lv D o Mt z hc hm) (ak_XXs e ρ (d + 20 * (20 - o) + 25) 233 u p hc hm) := by
  have tk : hm.1 110 33 = 215 := w.2.1.2.2.1.trans hk
  have p34 := w.2.1.2.2.2.1
  have hp2 := w.2.1.1.2.1
  have rm := ak_room w (by decide) pt
  have bv : 0 ≤ ((9000 * p + z 2 : Nat) : Int) ∧ ((9000 * p + z 2 : Nat) : Int) < 18000 := by omega
  have run0 : ∀ (Q : Int → ak_S → Prop) (X : Nat → ak_S → Prop), ak_MV e 1 (d + 20 * (20 - o) + 24) ρ 205 [am_r 110] hm (fun h1 => ak_MI e 1 (d + 20 * (20 - o) + 24) ρ 212 [am_r 110, am_i 26, am_i ((ak_st b n (z 0) : Nat) : Int)] h1 (fun v h2 => v = ((9000 * p + z 2 : Nat) : Int) ∧ ak_MI e 1 (d + 20 * (20 - o) + 24) ρ 222 [am_r 110] h2 (fun v3 h3 => ak_MV e 1 (d + 20 * (20 - o) + 24) ρ 209 [am_r 110, am_i 44] (am_up h3.1 115 (9000 * p + z 2) v3, h3.2) (fun h60 =>
            ak_MI e 1 (d + 20 * (20 - o) + 24) ρ 220 [am_r 110] h60 (fun v62 h61 =>
              ak_MV e 1 (d + 20 * (20 - o) + 24) ρ 209 [am_r 110, am_i 59] ((am_up h61.1 117 (9000 * p + z 2) v62), h61.2) (fun h63 =>
                Q ((9000 * p + z 2 : Nat) : Int) h63) (fun _ _ => False)) (fun _ _ => False)) (fun _ _ => False)) (fun _ _ => False)) (fun _ _ => False)) (fun _ _ => False) → ak_MI e 1 (d + 20 * (20 - o) + 25) ρ 233 [am_r 110] hm Q X := by
    intro Q X g
    refine am_p233_215 tk ?_
    rw [p34]
    refine ak_MV_imp g (fun h1 g2 => ak_MI_imp g2 (fun v h2 g3 => ?_) (fun _ _ q => q)) (fun _ _ q => q)
    obtain ⟨rfl, g3⟩ := g3
    rw [ak_natn]
    exact ak_MI_imp g3 (fun v3 h3 g4 => ⟨bv, ak_MV_imp g4 (fun h4 g5 => ak_MI_imp g5 (fun v h5 g6 => ⟨bv, g6⟩) (fun _ _ q => q)) (fun _ _ q => q)⟩) (fun _ _ q => q)
  refine ak_MV_of (Nat.le_of_ble_eq_true rfl) (am_k26_0 hu (lk_second (nk := 26) (dd := d + 20 * (20 - o) + 21) (ρ := ρ) hu (by omega) hE w pt ht (by omega) (fun z3 x hc4 hm4 run I4 l3 r3 su4 l32 e4 s4 n4 => ?_) (fun hcx hmx run wr => ?_)))
  · have le4 := ak_ext_le e4
    have l1 : z 1 ≤ z3 1 := le4.2.1
    have l34 : z 4 ≤ z3 4 := le4.2.2.2.2.1
    have n6 := (ak_st_n w).2.1
    have o20 := (ak_st_n w).2.2.1
    have z56 : z3 5 ≤ 60 := (ak_st_n I4).2.2.2
    have hs4' : ak_st b n (z3 0 + 1) ≤ n := (ak_st_n I4).1
    have pt' := pt
    unfold ak_POT at pt'
    refine ak_MI_deep (Nat.le_succ _) (ak_MI_imp (lk_name2 (d := d + 20 * (20 - o) + 19) (ρ := ρ) hu I4) (fun v hc6 R => ?_) (fun ex hcx R => ?_))
    · obtain ⟨z6, hm6, v0, v100, k2, z60, q1, q2, q3, q4, q5, I6, e6, go6⟩ := R
      have q1' : z6 1 = z3 1 := q1
      have q2' : z6 2 = z3 2 := q2
      have q3' : z6 3 = z3 3 := q3
      have q4' : z6 4 = z3 4 := q4
      have q5' : z6 5 = z3 5 := q5
      have z60' : z6 0 = z3 0 + 1 + 1 := z60
      have ham6 : z3 0 + 1 < m := by have := I6.1.1.1; omega
      have su6 : ak_st b n (z3 0 + 1) + 1 ≤ ak_st b n (z6 0) := by
        rw [z60']; exact ak_st_up (z := ak_zu z3 0 (z3 0 + 1)) I4.1 ham6
      refine ⟨fun _ => ⟨fun _ => ?_, fun q => absurd q (by decide)⟩, fun q => absurd q (by decide)⟩
      have I6c := ak_PI_cell hu I6 (q := 117) (k := 9000 * p + z 2) (v := v) (Or.inl (by decide))
      have e06c := ak_ext_cell (ak_ext_trans e4 e6) (q := 117) (k := 9000 * p + z 2) (v := v) (by decide) (Nat.le_refl _) (by omega)
      have n6c := ak_nd_117 (v := v) (ak_nd_ext e6 (show z 2 < z3 2 from l32) n4)
      have s6c := ak_sub_cell (ak_sub_ext s4 e6) (q := 117) (j := 9000 * p + z 2) (v := v) (by decide) (Or.inl (show 9000 * p + z 2 < 9000 * p + (z 2 + 1) by omega))
      have IP := ak_PI_put hu I6c (r := 23) (x := v)
      have eP : ak_ext u p z6 (ak_zu z6 1 (z6 1 + 1)) hc6 (am_up hm6.1 117 (9000 * p + z 2) v, hm6.2) (ak_put hc6 u (z6 1) 23 v) (am_up hm6.1 117 (9000 * p + z 2) v, hm6.2) := ak_ext_put hu
      have e0P := ak_ext_trans e06c eP
      refine am_s3 hu I6.2.2.2.2.2.2.2.2.1 (show z6 1 < 9600 by omega) (lk_pass2 (dm := d + 20 * (20 - o) + 20) (ρ := ρ) hu (by decide) IP (show z6 2 ≤ 6130 by omega) (fun hc9 hm9 _ I9 e9 su9 ps9 => ?_) (fun wr ps9 => ?_))
      · have su9' : ak_st b n (z6 0) + 1 ≤ ak_st b n (z6 0 + 1) := su9
        have e9P := ak_ext_trans eP e9
        have nF := ak_nd_ext e9 (show z 2 < z6 2 by omega) (ak_nd_ext eP (show z 2 < z6 2 by omega) n6c)
        have sA := ak_sub_ext s6c e9P
        refine ⟨D, _, z 2, hm9, ⟨I9, show z 0 < z6 0 + 1 by omega, ?_, ak_ext_trans e06c e9P, fun _ _ => rfl, Nat.le_refl _, show z 2 < z6 2 by omega, nF.2.2.2.2.2.1, nF.2.2.2.2.2.2, fun C M ft => ?_⟩, fun Q X g => run0 Q X (run _ X (go6 _ _ (ps9 _ _ g)))⟩
        · show 2 * (z6 1 + 1) + 2 + 3 * ak_st b n (z 0) + z 5 ≤ 2 * z 1 + 3 * ak_st b n (z6 0 + 1) + z6 5 ∧ z6 2 + ak_st b n (z 0) ≤ z 2 + ak_st b n (z6 0 + 1) ∧ 13 * z6 3 + ak_st b n (z 0) ≤ 13 * z 3 + ak_st b n (z6 0 + 1) ∧ 6 * z6 4 + ak_st b n (z 0) ≤ 6 * z 4 + ak_st b n (z6 0 + 1)
          omega
        · have tA := ak_sub_T sA ft (show z 1 ≤ z 1 ∧ z 2 ≤ z 2 + 1 ∧ z 3 ≤ z 3 ∧ z 4 ≤ z 4 ∧ z 5 ≤ z 5 by omega) l34 (Or.inl (show ((9000 * p + z 2 : Nat) : Int) < ((9000 * p + (z 2 + 1) : Nat) : Int) by omega))
          obtain ⟨m1, m2, m3, m4, m5, m6⟩ := ak_nd_M nF ft (Nat.le_refl _) (show z 2 < z6 2 by omega)
          have c1 := ft.1.1 (z6 1) (show z 1 ≤ z6 1 by omega) (Nat.lt_succ_self _)
          have o1 := ak_od_ext (c := z6 1) e9 (Nat.lt_succ_self _) ak_put_2
          have o2 := ak_oa_ext (c := z6 1) e9 (Nat.lt_succ_self _) ak_put_3
          have tA' : ak_X0 C M (ak_T u) p (ak_hx 222 o) (z3 2 - (z 2 + 1)) x (ak_lt Mt lv) (z 1) (z6 1) := by rw [q1']; exact tA
          intro Gd i hG hG2 hi
          have hi' : z6 2 - z 2 + 21 ≤ i + o := hi
          have ho := (ak_st_n w).2.2.1
          rw [← m2] at tA'
          exact ak_T3_fold ⟨_, rfl, Or.inr (Or.inr (Or.inr (Or.inr (Or.inr (Or.inr (Or.inl ⟨m1, z6 1, ak_RX_mk tA' (ak_lt_lt w) ak_hx_150 (by omega), c1.1.trans o1, (c1.2.trans o2).trans m4.symm, by rw [m4]; exact v0, by rw [m4]; exact v100, rfl⟩))))))⟩
      · exact ⟨rfl, ((9000 * p + z 2 : Nat) : Int), _, ak_WR_s (ak_WR_ext w IP (Nat.le_refl _) e0P wr), fun Q X g => run0 Q X (run _ X (go6 _ _ (ps9 _ _ g)))⟩
    · obtain ⟨hx, hth, y6, go6⟩ := R
      subst hx
      subst hth
      have wr := ak_WR_z I4 (show z3 2 ≤ 6130 by omega)
      have wr1 := ak_WR_cell wr (q := 117) (k := 9000 * p + z 2) (v := y6) (by decide) (by omega) (by omega)
      exact ⟨rfl, ((9000 * p + z 2 : Nat) : Int), _, ak_WR_s (ak_WR_ext w I4 (Nat.le_refl _) e4 wr1), fun Q X g => run0 Q X (run _ X (go6 _ _ (am_s209w wr1.1 g)))⟩
  · have wr1 := ak_WR_cell wr (q := 117) (k := 9000 * p + z 2) (v := 0) (by decide) (by omega) (by omega)
    exact ⟨rfl, ((9000 * p + z 2 : Nat) : Int), _, ak_WR_s wr1, fun Q X g => run0 Q X (run _ X (am_w220 wr.1 (am_s209w wr1.1 g)))⟩
end LKDROP
