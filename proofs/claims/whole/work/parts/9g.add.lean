/-! add, both sides at once -/
section LKADD
variable {e : ak_X3} {d dd dm u p : Nat} {b : Nat → Int} {n m lv o Mt : Nat} {D : Nat → Nat} {z : Nat → Nat} {hc hm : ak_S} {ρ : List Nat}
theorem lk_add {ρ0 ρ3 ρ4 t : Nat} (hu : u = 0 ∨ u = 1) (hE : ak_EX e u p b n m ρ0 ρ3 ρ4 ρ 34 222 13 13 t) (w : ak_PI u p b n m lv D o Mt z hc hm) (pt : ak_POT b n o 1 z) (ht : m ≤ z 0 + t) (hk : ak_kd b n (ak_st b n (z 0)) = 213) :
    ak_MV e 0 (d + 20 * (20 - o) + 24) [ρ0, ak_T u, ak_T u + 1, ρ3, ρ4] 26 [am_r 2, am_i 213, am_i (o : Int)] hc (ak_KQ e ρ (d + 20 * (20 - o) + 25) u p b n m lv D o Mt z hc hm) (ak_XXs e ρ (d + 20 * (20 - o) + 25) 233 u p hc hm) := by
  have tk : hm.1 110 33 = 213 := w.2.1.2.2.1.trans hk
  have p34 := w.2.1.2.2.2.1
  have hp := w.2.1.1.1
  have hp2 := w.2.1.1.2.1
  have hop : 0 ≤ hm.1 110 38 := by rw [w.2.2.2.1.1]; omega
  have rm := ak_room w (by decide) pt
  have run0 : ∀ (Q : Int → ak_S → Prop) (X : Nat → ak_S → Prop), ak_MV e 1 (d + 20 * (20 - o) + 24) ρ 205 [am_r 110] hm (fun h1 =>
      ak_MI e 1 (d + 20 * (20 - o) + 24) ρ 222 [am_r 110] h1 (fun v3 h2 =>
        ak_MV e 1 (d + 20 * (20 - o) + 24) ρ 209 [am_r 110, am_i 44] h2 (fun h4 =>
          ak_W0 e 1 (d + 20 * (20 - o) + 24) 233 ρ 221 [some (am_r 110), some (am_i ((ak_st b n (z 0) : Nat) : Int)), some (am_i 0), some (am_i v3), none, none, none, none] [am_i 24, am_r 110] h4 (ak_qi Q X)) (fun _ _ => False)) (fun _ _ => False)) (fun _ _ => False) → ak_MI e 1 (d + 20 * (20 - o) + 25) ρ 233 [am_r 110] hm Q X := by
    intro Q X g
    refine am_p233_213 tk (am_k233_193 ?_)
    rw [p34]
    exact ak_MV_imp g (fun h1 g2 => ak_MI_imp g2 (fun v3 h2 g3 => ak_MV_imp g3 (fun h4 g4 => ⟨fun _ => g4, fun q => absurd rfl q⟩) (fun _ _ q => q)) (fun _ _ q => q)) (fun _ _ q => q)
  refine ak_MV_of (Nat.le_of_ble_eq_true rfl) (am_k26_0 hu (lk_first (dd := d + 20 * (20 - o) + 21) (dm := d + 20 * (20 - o) + 20) (ρ := ρ) hu (by omega) hE w pt ht (by omega) (fun z3 x hc4 hm2 hm3 hm4 rd go3 ps I4 l3 r3 su4 e4 s4 => ?_) (fun hcx hm2 hmx x rd go3 wr => ?_) (fun hcx hm2 hm3 hmx x rd go3 ps wr => ?_)))
  · have le4 := ak_ext_le e4
    have l1 : z 1 ≤ z3 1 := le4.2.1
    have l2 : z 2 ≤ z3 2 := le4.2.2.1
    have l33 : z 3 ≤ z3 3 := le4.2.2.2.1
    have l34 : z 4 ≤ z3 4 := le4.2.2.2.2.1
    have l35 : z 5 ≤ z3 5 := le4.2.2.2.2.2.1
    have hs4 := (ak_st_n I4).1
    have hs4' : ak_st b n (z3 0 + 1) ≤ n := hs4
    have n6 := (ak_st_n w).2.1
    have o20 := (ak_st_n w).2.2.1
    have z56 : z3 5 ≤ 60 := (ak_st_n I4).2.2.2
    have pt' := pt
    unfold ak_POT at pt'
    have I5 := ak_PI_cell hu (ak_PI_node hu I4 (k := 24) (r := ((ak_st b n (z 0) : Nat) : Int))) (q := 115) (k := 9000 * p + z3 2) (v := x) (Or.inl (by decide))
    have e5 : ak_ext u p (ak_zu z3 0 (z3 0 + 1)) (ak_zu (ak_zu z3 0 (z3 0 + 1)) 2 (z3 2 + 1)) hc4 hm4 hc4 (am_up (ak_node hm4 p (z3 2) 24 ((ak_st b n (z 0) : Nat) : Int)).1 115 (9000 * p + z3 2) x, (ak_node hm4 p (z3 2) 24 ((ak_st b n (z 0) : Nat) : Int)).2) :=
      ak_ext_cell (q := 115) (k := 9000 * p + z3 2) (v := x) (ak_ext_node (z := ak_zu z3 0 (z3 0 + 1)) (show z3 2 < 9000 by omega)) (by decide) (Nat.le_refl _) (by omega)
    have n5 := ak_nd_115 (v := x) (ak_nd_new (hm := hm4) (p := p) (y := z3 2) (k := 24) (w := ((ak_st b n (z 0) : Nat) : Int)))
    have bv : 0 ≤ ((9000 * p + z3 2 : Nat) : Int) ∧ ((9000 * p + z3 2 : Nat) : Int) < 18000 := by omega
    have run1 : ∀ (Q : Int → ak_S → Prop) (X : Nat → ak_S → Prop), ak_MI e 1 (d + 20 * (20 - o) + 24) ρ 220 [am_r 110] (am_up (ak_node hm4 p (z3 2) 24 ((ak_st b n (z 0) : Nat) : Int)).1 115 (9000 * p + z3 2) x, (ak_node hm4 p (z3 2) 24 ((ak_st b n (z 0) : Nat) : Int)).2) (fun v6 h5 =>
        ak_MV e 1 (d + 20 * (20 - o) + 24) ρ 209 [am_r 110, am_i 61] (am_up h5.1 117 (9000 * p + z3 2) v6, h5.2) (fun h1 =>
          ak_MI e 1 (d + 20 * (20 - o) + 24) ρ 222 [am_r 110] h1 (fun v3 h2 =>
            ak_MV e 1 (d + 20 * (20 - o) + 24) ρ 209 [am_r 110, am_i 59] (am_up h2.1 116 (9000 * p + z3 2) v3, h2.2) (fun h4 => Q ((9000 * p + z3 2 : Nat) : Int) h4) (fun _ _ => False)) (fun _ _ => False)) (fun _ _ => False)) (fun _ _ => False) → ak_MI e 1 (d + 20 * (20 - o) + 25) ρ 233 [am_r 110] hm Q X := by
      intro Q X g
      refine run0 Q X (rd _ _ (go3 _ _ (ps _ _ (am_k233_221 (am_s212 I4.2.1.1.1 hp2 I4.2.2.2.2.2.2.2.2.2.1 (show z3 2 < 9000 by omega) ⟨bv, fun _ => ?_, fun q => absurd rfl q⟩)))))
      show ak_MI e 1 (d + 20 * (20 - o) + 24) ρ 220 [am_r 110] (am_up (ak_node hm4 p (z3 2) 24 ((ak_st b n (z 0) : Nat) : Int)).1 115 (9000 * p + z3 2) x, (ak_node hm4 p (z3 2) 24 ((ak_st b n (z 0) : Nat) : Int)).2) _ _
      refine ak_MI_imp g (fun v6 h5 g2 => am_k233_257 ⟨bv, ?_⟩) (fun _ _ q => q)
      rw [ak_natn]
      exact ak_MV_imp g2 (fun h1 g3 => ak_MI_imp g3 (fun v3 h2 g4 => ⟨bv, g4⟩) (fun _ _ q => q)) (fun _ _ q => q)
    refine ak_MI_deep (Nat.le_succ _) (ak_MI_imp (lk_name2 (d := d + 20 * (20 - o) + 19) (ρ := ρ) hu I5) (fun v hc6 R => ?_) (fun ex hcx R => ?_))
    · obtain ⟨z6, hm6, v0, v100, k2, z60, q1, q2, q3, q4, q5, I6, e6, go6⟩ := R
      have q1' : z6 1 = z3 1 := q1
      have q2' : z6 2 = z3 2 + 1 := q2
      have q3' : z6 3 = z3 3 := q3
      have q4' : z6 4 = z3 4 := q4
      have q5' : z6 5 = z3 5 := q5
      have z60' : z6 0 = z3 0 + 1 + 1 := z60
      have ham6 : z3 0 + 1 < m := by have := I6.1.1.1; omega
      have su6 : ak_st b n (z3 0 + 1) + 1 ≤ ak_st b n (z6 0) := by
        rw [z60']; exact ak_st_up (z := ak_zu (ak_zu z3 0 (z3 0 + 1)) 2 (z3 2 + 1)) I5.1 ham6
      have e06 := ak_ext_trans e4 (ak_ext_trans e5 e6)
      have s6 := ak_sub_ext s4 (ak_ext_trans e5 e6)
      have n6' := ak_nd_117 (v := v) (ak_nd_ext e6 (show z3 2 < z3 2 + 1 by omega) n5)
      have I6c := ak_PI_cell hu I6 (q := 117) (k := 9000 * p + z3 2) (v := v) (Or.inl (by decide))
      have e06c := ak_ext_cell e06 (q := 117) (k := 9000 * p + z3 2) (v := v) (by decide) (by omega) (by omega)
      have s6c := ak_sub_cell s6 (q := 117) (j := 9000 * p + z3 2) (v := v) (by decide) (Or.inr (Or.inl (Nat.le_refl _)))
      refine ⟨fun q => absurd rfl q, fun _ => ?_⟩
      refine lk_pass2 (dm := d + 20 * (20 - o) + 20) (ρ := ρ) hu (by decide) I6c (by omega) (fun hc7 hm7 h61 I7 e7 su7 ps7 => ?_) (fun wr ps7 => ?_)
      · have su7' : ak_st b n (z6 0) + 1 ≤ ak_st b n (z6 0 + 1) := su7
        have n7 := ak_nd_ext e7 (show z3 2 < z6 2 by omega) n6'
        have s7 := ak_sub_ext s6c e7
        have e07 := ak_ext_trans e06c e7
        have pt7 : ak_POT b n o 2 (ak_zu z6 0 (z6 0 + 1)) := by
          unfold ak_POT
          show 2 * z6 1 ≤ 3 * ak_st b n (z6 0 + 1) + z6 5 + 10 * o + 3 * 2 ∧ z6 2 ≤ ak_st b n (z6 0 + 1) + 2 * o + 2 ∧ 13 * z6 3 ≤ ak_st b n (z6 0 + 1) + 13 * o ∧ 6 * z6 4 ≤ ak_st b n (z6 0 + 1)
          omega
        refine lk_ecell (q := 116) (y := z3 2) (dd := d + 20 * (20 - o) + 23) hu (by decide) (by omega) hE I7 pt7 (show m ≤ z6 0 + 1 + t by omega) (show z3 2 < z6 2 by omega) (fun z8 x8 hc8 hm8 I8 l8 r8 pt8 rm8 e8 s8 go8 => ?_) (fun hcx x8 hmx wr go8 => ?_)
        · have le8 := ak_ext_le e8
          have le82 : z6 2 ≤ z8 2 := le8.2.2.1
          have le81 : z6 1 ≤ z8 1 := le8.2.1
          have le84 : z6 4 ≤ z8 4 := le8.2.2.2.2.1
          have l8' : z6 0 + 1 < z8 0 := l8
          have r8' : 2 * z8 1 + 1 + 3 * ak_st b n (z6 0 + 1) + z6 5 ≤ 2 * z6 1 + 3 * ak_st b n (z8 0) + z8 5 ∧ z8 2 + ak_st b n (z6 0 + 1) ≤ z6 2 + ak_st b n (z8 0) ∧ 13 * z8 3 + ak_st b n (z6 0 + 1) ≤ 13 * z6 3 + ak_st b n (z8 0) ∧ 6 * z8 4 + ak_st b n (z6 0 + 1) ≤ 6 * z6 4 + ak_st b n (z8 0) := r8
          have n8 := ak_nd_116 (v := x8) (ak_nd_ext e8 (show z3 2 < z6 2 by omega) n7)
          have s78 := ak_sub_cell (ak_sub_ext s7 e8) (q := 116) (j := 9000 * p + z3 2) (v := x8) (by decide) (Or.inr (Or.inl (Nat.le_refl _)))
          have e08 := ak_ext_cell (ak_ext_trans e07 e8) (q := 116) (k := 9000 * p + z3 2) (v := x8) (by decide) (by omega) (by omega)
          have IP := ak_PI_put hu I8 (r := 21) (x := v)
          have eP : ak_ext u p z8 (ak_zu z8 1 (z8 1 + 1)) hc8 (am_up hm8.1 116 (9000 * p + z3 2) x8, hm8.2) (ak_put hc8 u (z8 1) 21 v) (am_up hm8.1 116 (9000 * p + z3 2) x8, hm8.2) := ak_ext_put hu
          have e0P := ak_ext_trans e08 eP
          refine am_s3 hu I8.2.2.2.2.2.2.2.2.1 (show z8 1 < 9600 by omega) (lk_pass2 (dm := d + 20 * (20 - o) + 20) (ρ := ρ) hu (by decide) IP (show z8 2 ≤ 6130 by omega) (fun hc9 hm9 _ I9 e9 su9 ps9 => ?_) (fun wr ps9 => ?_))
          · have su9' : ak_st b n (z8 0) + 1 ≤ ak_st b n (z8 0 + 1) := su9
            have e9P := ak_ext_trans eP e9
            have nF := ak_nd_ext e9 (show z3 2 < z8 2 by omega) (ak_nd_ext eP (show z3 2 < z8 2 by omega) n8)
            have sA := ak_sub_ext s78 e9P
            have sB := ak_sub_ext s8 e9P
            refine ⟨D, _, z3 2, hm9, ⟨I9, show z 0 < z8 0 + 1 by omega, ?_, ak_ext_trans e08 e9P, fun _ _ => rfl, l2, show z3 2 < z8 2 by omega, nF.2.2.2.2.2.1, nF.2.2.2.2.2.2, fun C M ft => ?_⟩, fun Q X g => run1 Q X (go6 _ _ (ps7 _ _ (go8 _ _ (ps9 _ _ g))))⟩
            · show 2 * (z8 1 + 1) + 2 + 3 * ak_st b n (z 0) + z 5 ≤ 2 * z 1 + 3 * ak_st b n (z8 0 + 1) + z8 5 ∧ z8 2 + ak_st b n (z 0) ≤ z 2 + ak_st b n (z8 0 + 1) ∧ 13 * z8 3 + ak_st b n (z 0) ≤ 13 * z 3 + ak_st b n (z8 0 + 1) ∧ 6 * z8 4 + ak_st b n (z 0) ≤ 6 * z 4 + ak_st b n (z8 0 + 1)
              omega
            · have tA := ak_sub_T sA ft (show z 1 ≤ z 1 ∧ z 2 ≤ z 2 ∧ z 3 ≤ z 3 ∧ z 4 ≤ z 4 ∧ z 5 ≤ z 5 by omega) l34 (Or.inr (Int.le_refl _))
              have tB := ak_sub_T sB ft (show z 1 ≤ z6 1 ∧ z 2 ≤ z6 2 ∧ z 3 ≤ z6 3 ∧ z 4 ≤ z6 4 ∧ z 5 ≤ z6 5 by omega) (show z 4 ≤ z8 4 by omega) (Or.inl (show ((9000 * p + z3 2 : Nat) : Int) < ((9000 * p + z6 2 : Nat) : Int) by omega))
              obtain ⟨m1, m2, m3, m4, m5, m6⟩ := ak_nd_M nF ft l2 (show z3 2 < z8 2 by omega)
              have c1 := ft.1.1 (z8 1) (show z 1 ≤ z8 1 by omega) (Nat.lt_succ_self _)
              have tA' : ak_X0 C M (ak_T u) p (ak_hx 222 o) (z3 2 - z 2) x (ak_lt Mt lv) (z 1) (z3 1) := tA
              have tB' : ak_X0 C M (ak_T u) p (ak_hx 222 o) (z8 2 - z6 2) x8 (ak_lt Mt lv) (z3 1) (z8 1) := by rw [← q1']; exact tB
              have o1 := ak_od_ext (c := z8 1) e9 (Nat.lt_succ_self _) ak_put_2
              have o2 := ak_oa_ext (c := z8 1) e9 (Nat.lt_succ_self _) ak_put_3
              intro Gd i hG hG2 hi
              have hi' : z8 2 - z 2 + 21 ≤ i + o := hi
              have ho := (ak_st_n w).2.2.1
              rw [← m2] at tA'
              rw [← m3] at tB'
              refine ak_T3_fold ⟨_, rfl, Or.inr (Or.inr (Or.inr (Or.inr (Or.inl ⟨m1, z3 1, z8 1, ak_RX2_mk tA' tB' (ak_lt_lt w) ak_hx_150 ak_hx_150 (by omega), c1.1.trans o1, (c1.2.trans o2).trans m4.symm, ?_, ?_, rfl⟩))))⟩
              · rw [m4]; exact v0
              · rw [m4]; exact v100
          · exact ⟨rfl, ((9000 * p + z3 2 : Nat) : Int), _, ak_WR_s (ak_WR_ext w IP (Nat.le_refl _) e0P wr), fun Q X g => run1 Q X (go6 _ _ (ps7 _ _ (go8 _ _ (ps9 _ _ g))))⟩
        · exact ⟨rfl, ((9000 * p + z3 2 : Nat) : Int), _, ak_WR_s (ak_WR_ext w I7 (Nat.le_refl _) e07 wr), fun Q X g => run1 Q X (go6 _ _ (ps7 _ _ (go8 _ _ (am_s209w wr.1 g))))⟩
      · have wr2 := ak_WR_cell wr (q := 116) (k := 9000 * p + z3 2) (v := -1) (by decide) (by omega) (by omega)
        exact ⟨rfl, ((9000 * p + z3 2 : Nat) : Int), _, ak_WR_s (ak_WR_ext w I6c (Nat.le_refl _) e06c wr2), fun Q X g => run1 Q X (go6 _ _ (ps7 _ _ (am_w222 wr.1 (am_s209w wr2.1 g))))⟩
    · obtain ⟨hx, hth, y6, go6⟩ := R
      subst hx
      subst hth
      have wr := ak_WR_z I5 (show z3 2 + 1 ≤ 6130 by omega)
      have wr1 := ak_WR_cell wr (q := 117) (k := 9000 * p + z3 2) (v := y6) (by decide) (by omega) (by omega)
      have wr2 := ak_WR_cell wr1 (q := 116) (k := 9000 * p + z3 2) (v := -1) (by decide) (by omega) (by omega)
      exact ⟨rfl, ((9000 * p + z3 2 : Nat) : Int), _, ak_WR_s (ak_WR_ext w I5 (Nat.le_refl _) (ak_ext_trans e4 e5) wr2), fun Q X g => run1 Q X (go6 _ _ (am_s209w wr1.1 (am_w222 wr1.1 (am_s209w wr2.1 g))))⟩
  · exact ⟨rfl, am_w233_221 (d := d + 20 * (20 - o) + 16) (x1 := ((ak_st b n (z 0) : Nat) : Int)) (x2 := 0) (x3 := x) (y0 := 24) hp hp2 hop wr (fun Q X g => run0 Q X (rd _ _ (go3 _ _ (am_s209w wr.1 g))))⟩
  · exact ⟨rfl, am_w233_221 (d := d + 20 * (20 - o) + 16) (x1 := ((ak_st b n (z 0) : Nat) : Int)) (x2 := 0) (x3 := x) (y0 := 24) hp hp2 hop wr (fun Q X g => run0 Q X (rd _ _ (go3 _ _ (ps _ _ g))))⟩
end LKADD
