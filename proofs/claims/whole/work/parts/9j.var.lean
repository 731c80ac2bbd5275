/-! var, both sides at once -/
section LKVAR
variable {e : ak_X3} {d dd dm u p : Nat} {b : Nat → Int} {n m lv o Mt : Nat} {D : Nat → Nat} {z : Nat → Nat} {hc hm hcx hmx : ak_S} {ρ : List Nat}
/-- var: a fault before the node -/
theorem am_w233_var {w0 : Int} (hp : hm.1 110 31 = (p : Int)) (hp2 : p < 2) (hop : 0 ≤ hm.1 110 38) (wr : ak_WR u p hc hm hcx hmx)
    (G : ∀ (Q : Int → ak_S → Prop) (X : Nat → ak_S → Prop), ak_MI e 1 (d + 8) ρ 212 [am_r 110, am_i 20, am_i w0] hmx (fun v8 h7 =>
                  ak_MI e 1 (d + 8) ρ 222 [am_r 110] h7 (fun v10 h9 =>
                    (0 ≤ v8 ∧ v8 < (18000 : Int)) ∧ ak_MV e 1 (d + 8) ρ 209 [am_r 110, am_i 59] (am_up h9.1 115 v8.toNat v10, h9.2) (fun h11 =>
                      ak_MI e 1 (d + 8) ρ 206 [am_r 110] h11 (fun v13 h12 => v13 = 1 ∧ Q v8 h12) (fun _ _ => False)) (fun _ _ => False)) (fun _ _ => False)) (fun _ _ => False) → ak_MI e 1 (d + 9) ρ 233 [am_r 110] hm Q X) :
    ∃ (x : Int) (hm' : ak_S), ak_WRs u p hc hm hcx hm' ∧ ak_goI e (d + 9) ρ 233 [am_r 110] hm x hm' := by
  obtain ⟨y, hy, hy2⟩ := ak_WR_nodes wr hop
  have hp' := ak_WR_p wr hp
  have bv : 0 ≤ ((9000 * p + y : Nat) : Int) ∧ ((9000 * p + y : Nat) : Int) < 18000 := by omega
  have W0 := ak_WRs_node (k := 20) (w := w0) wr hop hy
  have W1 := ak_WRs_cell W0 (q := 115) (k := 9000 * p + y) (v := -1) (by decide) (by omega) (by omega)
  refine ⟨((9000 * p + y : Nat) : Int), _, W1, fun Q X g => G Q X (am_s212 hp' hp2 hy (by omega) (am_w222 W0.1 ⟨bv, ?_⟩))⟩
  rw [ak_natn]
  exact am_s209w W1.1 (am_w206 W1.1 ⟨rfl, g⟩)
theorem lk_var {ρ0 ρ3 ρ4 t : Nat} (hu : u = 0 ∨ u = 1) (hE : ak_EX e u p b n m ρ0 ρ3 ρ4 ρ 34 222 13 13 t) (w : ak_PI u p b n m lv D o Mt z hc hm) (pt : ak_POT b n o 1 z) (ht : m ≤ z 0 + t) (hk : ak_kd b n (ak_st b n (z 0)) = 201) :
    ak_MV e 0 (d + 20 * (20 - o) + 24) [ρ0, ak_T u, ak_T u + 1, ρ3, ρ4] 23 [am_r 2, am_i (o : Int)] hc (ak_KQ e ρ (d + 20 * (20 - o) + 25) u p b n m lv D o Mt z hc hm) (ak_XXs e ρ (d + 20 * (20 - o) + 25) 233 u p hc hm) := by
  have tk : hm.1 110 33 = 201 := w.2.1.2.2.1.trans hk
  have p34 := w.2.1.2.2.2.1
  have hp := w.2.1.1.1
  have hp2 := w.2.1.1.2.1
  have hop : 0 ≤ hm.1 110 38 := by rw [w.2.2.2.1.1]; omega
  have rm := ak_room w (by decide) pt
  have n6 := (ak_st_n w).2.1
  have o20 := (ak_st_n w).2.2.1
  have bv : 0 ≤ ((9000 * p + z 2 : Nat) : Int) ∧ ((9000 * p + z 2 : Nat) : Int) < 18000 := by omega
  have pt' := pt
  unfold ak_POT at pt'
  refine ak_MV_of (Nat.le_of_ble_eq_true rfl) (am_k23_0 hu (lk_adv (dm := d + 20 * (20 - o) + 21) (ρ := ρ) hu w (by omega) (fun hc1 hm1 I1 fr1 frm1 e1 su1 rd1 => ?_)))
  have su1' : ak_st b n (z 0) + 1 ≤ ak_st b n (z 0 + 1) := su1
  have hf1 := I1.2.2.1
  have pt1 := ak_POT_step w.1 (ak_cc_lt w.1 (by omega)) pt
  refine lk_may (dm := d + 20 * (20 - o) + 20) (ρ := ρ) (f := 1) (by decide) hu I1 pt1 (fun hk2 hD wd v10 my => ?_) (fun wr my => ?_)
  · rw [v10]
    refine lk_adv (dm := d + 20 * (20 - o) + 21) (ρ := ρ) hu I1 (by omega) (fun hc2 hm2 I2 fr2 frm2 e2 su2 rd2 => ?_)
    have su2' : ak_st b n (z 0 + 1) + 1 ≤ ak_st b n (z 0 + 1 + 1) := su2
    have e02 := ak_ext_trans e1 e2
    have run0 : ∀ (Q : Int → ak_S → Prop) (X : Nat → ak_S → Prop), ak_MV e 1 (d + 20 * (20 - o) + 24) ρ 209 [am_r 110, am_i 61] hm2 (fun h6 =>
                ak_MI e 1 (d + 20 * (20 - o) + 24) ρ 212 [am_r 110, am_i 20, am_i ((ak_st b n (z 0) : Nat) : Int)] h6 (fun v8 h7 =>
                  ak_MI e 1 (d + 20 * (20 - o) + 24) ρ 222 [am_r 110] h7 (fun v10 h9 =>
                    (0 ≤ v8 ∧ v8 < (18000 : Int)) ∧ ak_MV e 1 (d + 20 * (20 - o) + 24) ρ 209 [am_r 110, am_i 59] (am_up h9.1 115 v8.toNat v10, h9.2) (fun h11 =>
                      ak_MI e 1 (d + 20 * (20 - o) + 24) ρ 206 [am_r 110] h11 (fun v13 h12 =>
                        (v13 ≠ 0 →
                          Q v8 h12)
                        ∧ (v13 = 0 →
                          ak_MI e 1 (d + 20 * (20 - o) + 24) ρ 216 [am_r 110, am_i ((ak_st b n (z 0 + 1) : Nat) : Int), am_i ((ak_nx b n (ak_st b n (z 0 + 1)) - ak_st b n (z 0 + 1) : Nat) : Int)] h12 (fun v15 h14 =>
                            (0 ≤ v8 ∧ v8 < (18000 : Int)) ∧ Q v8 (am_up h14.1 116 v8.toNat v15, h14.2)) (fun _ _ => False))) (fun _ _ => False)) (fun _ _ => False)) (fun _ _ => False)) (fun _ _ => False)) (fun _ _ => False) → ak_MI e 1 (d + 20 * (20 - o) + 25) ρ 233 [am_r 110] hm Q X := by
      intro Q X g
      refine am_p233_201 tk (rd1 _ _ (my _ _ (am_s206 (fun _ => ⟨fun _ => ?_, fun q => absurd rfl q⟩) (fun q => absurd q (by omega)))))
      rw [I1.2.1.2.2.2.1, I1.2.1.2.2.2.2.1, p34]
      exact rd2 _ _ g
    refine lk_pass2 (dm := d + 20 * (20 - o) + 20) (ρ := ρ) hu (by decide) I2 (show z 2 ≤ 6130 by omega) (fun hc3 hm3 _ I3 e3 su3 ps3 => ?_) (fun wr ps3 => ?_)
    · have su3' : ak_st b n (z 0 + 1 + 1) + 1 ≤ ak_st b n (z 0 + 1 + 1 + 1) := su3
      have e03 := ak_ext_trans e02 e3
      have I4 := ak_PI_node hu I3 (k := 20) (r := ((ak_st b n (z 0) : Nat) : Int))
      have e04 := ak_ext_trans e03 (ak_ext_node (hc := hc3) (hm := hm3) (p := p) (u := u) (z := ak_zu (ak_zu (ak_zu z 0 (z 0 + 1)) 0 (z 0 + 1 + 1)) 0 (z 0 + 1 + 1 + 1)) (k := 20) (r := ((ak_st b n (z 0) : Nat) : Int)) (show z 2 < 9000 by omega))
      have n4 : ak_nd (ak_node hm3 p (z 2) 20 ((ak_st b n (z 0) : Nat) : Int)) (9000 * p + z 2) 20 (-1) (-1) (-1) (-1) (-1) ((ak_st b n (z 0) : Nat) : Int) := ak_nd_new
      have pt4 : ak_POT b n o 2 (ak_zu (ak_zu (ak_zu (ak_zu z 0 (z 0 + 1)) 0 (z 0 + 1 + 1)) 0 (z 0 + 1 + 1 + 1)) 2 (z 2 + 1)) := by
        unfold ak_POT
        show 2 * z 1 ≤ 3 * ak_st b n (z 0 + 1 + 1 + 1) + z 5 + 10 * o + 3 * 2 ∧ z 2 + 1 ≤ ak_st b n (z 0 + 1 + 1 + 1) + 2 * o + 2 ∧ 13 * z 3 ≤ ak_st b n (z 0 + 1 + 1 + 1) + 13 * o ∧ 6 * z 4 ≤ ak_st b n (z 0 + 1 + 1 + 1)
        omega
      have run1 : ∀ (Q : Int → ak_S → Prop) (X : Nat → ak_S → Prop), ak_MI e 1 (d + 20 * (20 - o) + 24) ρ 222 [am_r 110] (ak_node hm3 p (z 2) 20 ((ak_st b n (z 0) : Nat) : Int)) (fun v10 h9 =>
                    ak_MV e 1 (d + 20 * (20 - o) + 24) ρ 209 [am_r 110, am_i 59] (am_up h9.1 115 (9000 * p + z 2) v10, h9.2) (fun h11 =>
                      ak_MI e 1 (d + 20 * (20 - o) + 24) ρ 206 [am_r 110] h11 (fun v13 h12 =>
                        (v13 ≠ 0 →
                          Q ((9000 * p + z 2 : Nat) : Int) h12)
                        ∧ (v13 = 0 →
                          ak_MI e 1 (d + 20 * (20 - o) + 24) ρ 216 [am_r 110, am_i ((ak_st b n (z 0 + 1) : Nat) : Int), am_i ((ak_nx b n (ak_st b n (z 0 + 1)) - ak_st b n (z 0 + 1) : Nat) : Int)] h12 (fun v15 h14 =>
                            Q ((9000 * p + z 2 : Nat) : Int) (am_up h14.1 116 (9000 * p + z 2) v15, h14.2)) (fun _ _ => False))) (fun _ _ => False)) (fun _ _ => False)) (fun _ _ => False) → ak_MI e 1 (d + 20 * (20 - o) + 25) ρ 233 [am_r 110] hm Q X := by
        intro Q X g
        refine run0 Q X (ps3 _ _ (am_s212 I3.2.1.1.1 hp2 I3.2.2.2.2.2.2.2.2.2.1 (show z 2 < 9000 by omega) ?_))
        show ak_MI e 1 (d + 20 * (20 - o) + 24) ρ 222 [am_r 110] (ak_node hm3 p (z 2) 20 ((ak_st b n (z 0) : Nat) : Int)) _ _
        refine ak_MI_imp g (fun v10 h9 g2 => ⟨bv, ?_⟩) (fun _ _ q => q)
        rw [ak_natn]
        exact ak_MV_imp g2 (fun h11 g3 => ak_MI_imp g3 (fun v13 h12 g4 => ⟨g4.1, fun q => ak_MI_imp (g4.2 q) (fun v15 h14 g5 => ⟨bv, g5⟩) (fun _ _ q => q)⟩) (fun _ _ q => q)) (fun _ _ q => q)
      refine lk_ecell (q := 115) (y := z 2) (dd := d + 20 * (20 - o) + 23) hu (by decide) (by omega) hE I4 pt4 (show m ≤ z 0 + 1 + 1 + 1 + t by omega) (show z 2 < z 2 + 1 by omega) (fun z5 x hc5 hm5 I5 l5 r5 pt5 rm5 e5 s5 go5 => ?_) (fun hcx x hmx wr go5 => ?_)
      · have le5 := ak_ext_le e5
        have le52 : z 2 + 1 ≤ z5 2 := le5.2.2.1
        have le51 : z 1 ≤ z5 1 := le5.2.1
        have le54 : z 4 ≤ z5 4 := le5.2.2.2.2.1
        have l5' : z 0 + 1 + 1 + 1 < z5 0 := l5
        have r5' : 2 * z5 1 + 1 + 3 * ak_st b n (z 0 + 1 + 1 + 1) + z 5 ≤ 2 * z 1 + 3 * ak_st b n (z5 0) + z5 5 ∧ z5 2 + ak_st b n (z 0 + 1 + 1 + 1) ≤ z 2 + 1 + ak_st b n (z5 0) ∧ 13 * z5 3 + ak_st b n (z 0 + 1 + 1 + 1) ≤ 13 * z 3 + ak_st b n (z5 0) ∧ 6 * z5 4 + ak_st b n (z 0 + 1 + 1 + 1) ≤ 6 * z 4 + ak_st b n (z5 0) := r5
        have n5 := ak_nd_115 (v := x) (ak_nd_ext e5 (show z 2 < z 2 + 1 by omega) n4)
        have e05 := ak_ext_cell (ak_ext_trans e04 e5) (q := 115) (k := 9000 * p + z 2) (v := x) (by decide) (Nat.le_refl _) (by omega)
        refine lk_pass2 (dm := d + 20 * (20 - o) + 20) (ρ := ρ) hu (by decide) I5 (by omega) (fun hc6 hm6 _ I6 e6 su6 ps6 => ?_) (fun wr ps6 => ?_)
        · have su6' : ak_st b n (z5 0) + 1 ≤ ak_st b n (z5 0 + 1) := su6
          have hf6 := I6.2.2.1
          have n6' := ak_nd_ext e6 (show z 2 < z5 2 by omega) n5
          have s6 := ak_sub_ext s5 e6
          have e06 := ak_ext_trans e05 e6
          have I7 := ak_PI_dc hu I6 hD wd
          have e7 := ak_ext_dc (p := p) (z := ak_zu z5 0 (z5 0 + 1)) (hc := hc6) (hm := hm6) (lv := lv) (k := D lv) (v := ak_pk b (ak_st b n (z 0 + 1)) (ak_nx b n (ak_st b n (z 0 + 1)) - ak_st b n (z 0 + 1))) (i := ((ak_st b n (z 0 + 1) : Nat) : Int)) (y := ((ak_nx b n (ak_st b n (z 0 + 1)) - ak_st b n (z 0 + 1) : Nat) : Int)) hu
          have n7 := ak_nd_ext e7 (show z 2 < z5 2 by omega) n6'
          have s7 := ak_sub_ext s6 e7
          have e07 := ak_ext_trans e06 e7
          have I8 := ak_PI_cell hu I7 (q := 116) (k := 9000 * p + z 2) (v := (D lv : Int)) (Or.inl (by decide))
          have e08 := ak_ext_cell e07 (q := 116) (k := 9000 * p + z 2) (v := (D lv : Int)) (by decide) (Nat.le_refl _) (by omega)
          have n8 := ak_nd_116 (v := (D lv : Int)) n7
          have s8 := ak_sub_cell s7 (q := 116) (j := 9000 * p + z 2) (v := (D lv : Int)) (by decide) (Or.inl (show 9000 * p + z 2 < 9000 * p + (z 2 + 1) by omega))
          have IP := ak_PI_put hu I8 (r := 27) (x := (D lv : Int))
          have eP := ak_ext_put (p := p) (z := ak_zu z5 0 (z5 0 + 1)) (hc := ak_dcC hc6 lv (D lv) (ak_pk b (ak_st b n (z 0 + 1)) (ak_nx b n (ak_st b n (z 0 + 1)) - ak_st b n (z 0 + 1)))) (hm := (am_up (ak_dcM hm6 lv (D lv) ((ak_st b n (z 0 + 1) : Nat) : Int) ((ak_nx b n (ak_st b n (z 0 + 1)) - ak_st b n (z 0 + 1) : Nat) : Int)).1 116 (9000 * p + z 2) (D lv : Int), (ak_dcM hm6 lv (D lv) ((ak_st b n (z 0 + 1) : Nat) : Int) ((ak_nx b n (ak_st b n (z 0 + 1)) - ak_st b n (z 0 + 1) : Nat) : Int)).2)) (r := 27) (x := (D lv : Int)) hu
          have nF := ak_nd_ext eP (show z 2 < z5 2 by omega) n8
          have sF := ak_sub_ext s8 eP
          have e0P := ak_ext_trans e08 eP
          have D12 : D lv < 12 := hD
          refine am_s17 hu I6.2.2.2.2.1 hD (am_s3 hu I8.2.2.2.2.2.2.2.2.1 (show z5 1 < 9600 by omega) ?_)
          refine ⟨_, _, z 2, _, ⟨IP, show z 0 < z5 0 + 1 by omega, ?_, e0P, fun s hs => if_neg (show s ≠ lv by omega), Nat.le_refl _, show z 2 < z5 2 by omega, nF.2.2.2.2.2.1, nF.2.2.2.2.2.2, fun C M ft => ?_⟩, fun Q X g => run1 Q X (go5 _ _ (ps6 _ _ (am_s206 (fun _ => ⟨fun q => absurd rfl q, fun _ => am_s216 I6.2.2.2.2.1 hD g⟩) (fun q => absurd q (by omega)))))⟩
          · show 2 * (z5 1 + 1) + 2 + 3 * ak_st b n (z 0) + z 5 ≤ 2 * z 1 + 3 * ak_st b n (z5 0 + 1) + z5 5 ∧ z5 2 + ak_st b n (z 0) ≤ z 2 + ak_st b n (z5 0 + 1) ∧ 13 * z5 3 + ak_st b n (z 0) ≤ 13 * z 3 + ak_st b n (z5 0 + 1) ∧ 6 * z5 4 + ak_st b n (z 0) ≤ 6 * z 4 + ak_st b n (z5 0 + 1)
            omega
          · have tA := ak_sub_T sF ft (show z 1 ≤ z 1 ∧ z 2 ≤ z 2 + 1 ∧ z 3 ≤ z 3 ∧ z 4 ≤ z 4 ∧ z 5 ≤ z 5 by omega) le54 (Or.inl (show ((9000 * p + z 2 : Nat) : Int) < ((9000 * p + (z 2 + 1) : Nat) : Int) by omega))
            obtain ⟨m1, m2, m3, m4, m5, m6⟩ := ak_nd_M nF ft (Nat.le_refl _) (show z 2 < z5 2 by omega)
            have c1 := ft.1.1 (z5 1) (show z 1 ≤ z5 1 by omega) (Nat.lt_succ_self _)
            have tA' : ak_X0 C M (ak_T u) p (ak_hx 222 o) (z5 2 - (z 2 + 1)) x (ak_lt Mt lv) (z 1) (z5 1) := tA
            intro Gd i hG hG2 hi
            have hi' : z5 2 - z 2 + 21 ≤ i + o := hi
            have ho := (ak_st_n w).2.2.1
            rw [← m2] at tA'
            exact ak_T3_fold ⟨_, rfl, Or.inl ⟨m1, z5 1, ak_RX_mk tA' (ak_lt_lt w) ak_hx_150 (by omega), c1.1.trans ak_put_2, (c1.2.trans ak_put_3).trans m3.symm, by rw [m3]; omega, by rw [m3]; omega, rfl⟩⟩
        · exact ⟨rfl, ((9000 * p + z 2 : Nat) : Int), _, ak_WR_s (ak_WR_ext w I5 (Nat.le_refl _) e05 wr), fun Q X g => run1 Q X (go5 _ _ (ps6 _ _ (am_w206 wr.1 ⟨fun _ => g, fun q => absurd q (by decide)⟩)))⟩
      · exact ⟨rfl, ((9000 * p + z 2 : Nat) : Int), _, ak_WR_s (ak_WR_ext w I4 (Nat.le_refl _) e04 wr), fun Q X g => run1 Q X (go5 _ _ (am_s209w wr.1 (am_w206 wr.1 ⟨fun _ => g, fun q => absurd q (by decide)⟩)))⟩
    · refine ⟨rfl, am_w233_var (d := d + 20 * (20 - o) + 16) (w0 := ((ak_st b n (z 0) : Nat) : Int)) hp hp2 hop (ak_WR_ext w I2 (Nat.le_refl _) e02 wr) (fun Q X g => run0 Q X (ps3 _ _ (ak_MI_imp g (fun v8 h7 g2 => ak_MI_imp g2 (fun v10 h9 g3 => ⟨g3.1, ak_MV_imp g3.2 (fun h11 g4 => ak_MI_imp g4 (fun v13 h12 g5 => ⟨fun _ => g5.2, fun q => absurd (g5.1.symm.trans q) (by decide)⟩) (fun _ _ q => q)) (fun _ _ q => q)⟩) (fun _ _ q => q)) (fun _ _ q => q))))⟩
  · exact ⟨rfl, -1, _, ak_WR_s (ak_WR_ext w I1 (Nat.le_refl _) e1 wr), fun Q X g => am_p233_201 tk (rd1 _ _ (my _ _ (am_w206 wr.1 ⟨fun q => absurd q (by decide), fun _ => g⟩)))⟩
end LKVAR
