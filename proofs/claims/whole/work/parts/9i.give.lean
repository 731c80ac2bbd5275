/-! give, both sides at once -/
section LKGIVE
variable {e : ak_X3} {d dd dm u p : Nat} {b : Nat → Int} {n m lv o Mt : Nat} {D : Nat → Nat} {z : Nat → Nat} {hc hm : ak_S} {ρ : List Nat}
theorem lk_give {ρ0 ρ3 ρ4 t : Nat} (hu : u = 0 ∨ u = 1) (hE : ak_EX e u p b n m ρ0 ρ3 ρ4 ρ 34 222 13 13 t) (w : ak_PI u p b n m lv D o Mt z hc hm) (pt : ak_POT b n o 1 z) (ht : m ≤ z 0 + t) (hk : ak_kd b n (ak_st b n (z 0)) = 214) :
    ak_MV e 0 (d + 20 * (20 - o) + 24) [ρ0, ak_T u, ak_T u + 1, ρ3, ρ4] 26 [am_r 2, am_i 214, am_i (o : Int)] hc (ak_KQ e ρ (d + 20 * (20 - o) + 25) u p b n m lv D o Mt z hc hm) (ak_XXs e ρ (d + 20 * (20 - o) + 25) 233 u p hc hm) := by
  have tk : hm.1 110 33 = 214 := w.2.1.2.2.1.trans hk
  have p34 := w.2.1.2.2.2.1
  have hp2 := w.2.1.1.2.1
  have rm := ak_room w (by decide) pt
  have bv : 0 ≤ ((9000 * p + z 2 : Nat) : Int) ∧ ((9000 * p + z 2 : Nat) : Int) < 18000 := by omega
  have run0 : ∀ (Q : Int → ak_S → Prop) (X : Nat → ak_S → Prop), ak_MV e 1 (d + 20 * (20 - o) + 24) ρ 205 [am_r 110] hm (fun h1 => ak_MI e 1 (d + 20 * (20 - o) + 24) ρ 212 [am_r 110, am_i 25, am_i ((ak_st b n (z 0) : Nat) : Int)] h1 (fun v h2 => v = ((9000 * p + z 2 : Nat) : Int) ∧ ak_MI e 1 (d + 20 * (20 - o) + 24) ρ 222 [am_r 110] h2 (fun v3 h3 => ak_MV e 1 (d + 20 * (20 - o) + 24) ρ 209 [am_r 110, am_i 44] (am_up h3.1 115 (9000 * p + z 2) v3, h3.2) (fun h60 =>
            ak_MI e 1 (d + 20 * (20 - o) + 24) ρ 220 [am_r 110] h60 (fun v62 h61 =>
              ak_MV e 1 (d + 20 * (20 - o) + 24) ρ 209 [am_r 110, am_i 44] ((am_up h61.1 117 (9000 * p + z 2) v62), h61.2) (fun h63 =>
                ak_MI e 1 (d + 20 * (20 - o) + 24) ρ 235 [am_r 110] h63 (fun v64 h65 =>
                  ak_MV e 1 (d + 20 * (20 - o) + 24) ρ 209 [am_r 110, am_i 59] (am_up h65.1 118 (9000 * p + z 2) v64, h65.2) (fun h66 =>
                    Q ((9000 * p + z 2 : Nat) : Int) h66) (fun _ _ => False)) (fun _ _ => False)) (fun _ _ => False)) (fun _ _ => False)) (fun _ _ => False)) (fun _ _ => False)) (fun _ _ => False)) (fun _ _ => False) → ak_MI e 1 (d + 20 * (20 - o) + 25) ρ 233 [am_r 110] hm Q X := by
    intro Q X g
    refine am_p233_214 tk ?_
    rw [p34]
    refine ak_MV_imp g (fun h1 g2 => ak_MI_imp g2 (fun v h2 g3 => ?_) (fun _ _ q => q)) (fun _ _ q => q)
    obtain ⟨rfl, g3⟩ := g3
    rw [ak_natn]
    exact ak_MI_imp g3 (fun v3 h3 g4 => ⟨bv, ak_MV_imp g4 (fun h4 g5 => ak_MI_imp g5 (fun v h5 g6 => ⟨bv, ak_MV_imp g6 (fun h6 g7 => ak_MI_imp g7 (fun v h7 g8 => ⟨bv, g8⟩) (fun _ _ q => q)) (fun _ _ q => q)⟩) (fun _ _ q => q)) (fun _ _ q => q)⟩) (fun _ _ q => q)
  refine ak_MV_of (Nat.le_of_ble_eq_true rfl) (am_k26_0 hu (lk_second (nk := 25) (dd := d + 20 * (20 - o) + 21) (ρ := ρ) hu (by omega) hE w pt ht (by omega) (fun z3 x hc4 hm4 run I4 l3 r3 su4 l32 e4 s4 n4 => ?_) (fun hcx hmx run wr => ?_)))
  · have le4 := ak_ext_le e4
    have l1 : z 1 ≤ z3 1 := le4.2.1
    have l34 : z 4 ≤ z3 4 := le4.2.2.2.2.1
    have n6 := (ak_st_n w).2.1
    have o20 := (ak_st_n w).2.2.1
    have z56 : z3 5 ≤ 60 := (ak_st_n I4).2.2.2
    have hs4' : ak_st b n (z3 0 + 1) ≤ n := (ak_st_n I4).1
    have pt' := pt
    unfold ak_POT at pt'
    refine ak_MI_deep (Nat.le_succ _) (ak_MI_imp (lk_name2 (d := d + 20 * (20 - o) + 19) (ρ := ρ) hu I4) (fun v hc6 R => ?_) (fun ex hcx R => ?_))
    · obtain ⟨z6, hm6, v0, v100, k2, z60, q1, q2, q3, q4, q5, I6, e6, go6⟩ := R
      have q1' : z6 1 = z3 1 := q1
      have q2' : z6 2 = z3 2 := q2
      have q3' : z6 3 = z3 3 := q3
      have q4' : z6 4 = z3 4 := q4
      have q5' : z6 5 = z3 5 := q5
      have z60' : z6 0 = z3 0 + 1 + 1 := z60
      have ham6 : z3 0 + 1 < m := by have := I6.1.1.1; omega
      have su6 : ak_st b n (z3 0 + 1) + 1 ≤ ak_st b n (z6 0) := by
        rw [z60']; exact ak_st_up (z := ak_zu z3 0 (z3 0 + 1)) I4.1 ham6
      refine ⟨fun _ => ⟨fun q => absurd rfl q, fun _ => ?_⟩, fun q => absurd q (by decide)⟩
      have I6c := ak_PI_cell hu I6 (q := 117) (k := 9000 * p + z 2) (v := v) (Or.inl (by decide))
      have e06c := ak_ext_cell (ak_ext_trans e4 e6) (q := 117) (k := 9000 * p + z 2) (v := v) (by decide) (Nat.le_refl _) (by omega)
      have n6c := ak_nd_117 (v := v) (ak_nd_ext e6 (show z 2 < z3 2 from l32) n4)
      have s6c := ak_sub_cell (ak_sub_ext s4 e6) (q := 117) (j := 9000 * p + z 2) (v := v) (by decide) (Or.inl (show 9000 * p + z 2 < 9000 * p + (z 2 + 1) by omega))
      refine lk_pass2 (dm := d + 20 * (20 - o) + 20) (ρ := ρ) hu (by decide) I6c (by omega) (fun hc7 hm7 _ I7 e7 su7 ps7 => ?_) (fun wr ps7 => ?_)
      · have su7' : ak_st b n (z6 0) + 1 ≤ ak_st b n (z6 0 + 1) := su7
        have e07 := ak_ext_trans e06c e7
        have n7 := ak_nd_ext e7 (show z 2 < z6 2 by omega) n6c
        have s7 := ak_sub_ext s6c e7
        have hkC := I7.1.2.2.2.2.1
        have mm := I7.2.2.2.2.2.2.2.1
        have hf7 := I7.2.2.1
        have hs7 := (ak_st_n I7).1
        have wr7 := ak_WR_z I7 (show z6 2 ≤ 6130 by omega)
        have wr8 := ak_WR_cell wr7 (q := 118) (k := 9000 * p + z 2) (v := 0) (by decide) (by omega) (by omega)
        rw [hkC]
        refine ⟨fun k2 => am_s10 hu (fun q => absurd rfl q) (fun _ => ⟨rfl, ((9000 * p + z 2 : Nat) : Int), _, ak_WR_s (ak_WR_ext w I7 (Nat.le_refl _) e07 wr8), fun Q X g => run0 Q X (run _ X (go6 _ _ (ps7 _ _ (am_s235 I7.2.1 hs7 hf7 mm (fun q _ => absurd q k2) (fun _ => am_s209w wr8.1 g)))))⟩), fun k2 => am_s10 hu (fun _ => am_s135 hu mm.2.1 mm.1 ⟨fun neg => ?_, fun pos => ?_⟩) (fun q => absurd q (by decide))⟩
        · have v10 : hc7.2.1 3 10 = ak_pk b (ak_st b n (ak_zu z6 0 (z6 0 + 1) 0)) (ak_nx b n (ak_st b n (ak_zu z6 0 (z6 0 + 1) 0)) - ak_st b n (ak_zu z6 0 (z6 0 + 1) 0)) := by
            obtain ⟨-, -, -, hv⟩ := ak_kd_word k2
            rw [I7.1.2.2.2.2.2.2]
            exact hv _ (I7.1.2.1 _ I7.1.1.1).2.2
          rw [v10] at neg
          refine am_k26_113 hu (am_s10 hu (fun q => absurd rfl q) (fun _ => ⟨rfl, ((9000 * p + z 2 : Nat) : Int), _, ak_WR_s (ak_WR_ext w I7 (Nat.le_refl _) e07 wr8), fun Q X g => run0 Q X (run _ X (go6 _ _ (ps7 _ _ (am_s235 I7.2.1 hs7 hf7 mm (fun _ q => absurd q (by omega)) (fun _ => am_s209w wr8.1 g)))))⟩))
        · have v10 : hc7.2.1 3 10 = ak_pk b (ak_st b n (ak_zu z6 0 (z6 0 + 1) 0)) (ak_nx b n (ak_st b n (ak_zu z6 0 (z6 0 + 1) 0)) - ak_st b n (ak_zu z6 0 (z6 0 + 1) 0)) := by
            obtain ⟨-, -, -, hv⟩ := ak_kd_word k2
            rw [I7.1.2.2.2.2.2.2]
            exact hv _ (I7.1.2.1 _ I7.1.1.1).2.2
          rw [v10] at pos ⊢
          obtain ⟨j, hj, ej⟩ : ∃ j : Nat, (j < 40 ∧ j < Mt) ∧ ak_find (hc7.2.1 (ak_T u + 11)) (ak_pk b (ak_st b n (ak_zu z6 0 (z6 0 + 1) 0)) (ak_nx b n (ak_st b n (ak_zu z6 0 (z6 0 + 1) 0)) - ak_st b n (ak_zu z6 0 (z6 0 + 1) 0))) Mt 0 = (j : Int) := by
            rcases ak_find_in (f := hc7.2.1 (ak_T u + 11)) (w := ak_pk b (ak_st b n (ak_zu z6 0 (z6 0 + 1) 0)) (ak_nx b n (ak_st b n (ak_zu z6 0 (z6 0 + 1) 0)) - ak_st b n (ak_zu z6 0 (z6 0 + 1) 0))) Mt 0 with q | ⟨j, g1, g2, g3, -⟩
            · omega
            · exact ⟨j, by have := mm.1; omega, g3⟩
          obtain ⟨v8, hm8, ⟨ev8, M8, fr8⟩, go8⟩ := ak_MI_get (e := e) (r := 1) (d := d + 20 * (20 - o) + 24) (ρ := ρ) (am_s235 (d := d + 20 * (20 - o) + 20) (X := ak_F) (Q := fun v h' => v = (j : Int) ∧ ak_cm b n p h' (z6 0 + 1 + 1) ∧ ak_rfr hm7 h') I7.2.1 hs7 hf7 mm (fun _ _ h' c f => ⟨ej, c, f⟩) (fun no => absurd ⟨k2, by rw [ej]; omega⟩ no))
          subst ev8
          rw [ej]
          have ham7 := ak_cc_lt I7.1 (by rw [k2]; decide)
          refine am_k26_113 hu (am_s10 hu (fun _ => am_adv I7.1 ham7 (fun hc8 C8 fr => ?_)) (fun q => absurd q (by decide)))
          have I8 := ak_PI_step hu I7 C8 fr M8 fr8
          have e8 := ak_ext_step (p := p) (z := ak_zu z6 0 (z6 0 + 1)) hu fr fr8
          have su8 := ak_st_up I7.1 ham7
          have su8' : ak_st b n (z6 0 + 1) + 1 ≤ ak_st b n (z6 0 + 1 + 1) := su8
          have I8c := ak_PI_cell hu I8 (q := 118) (k := 9000 * p + z 2) (v := (j : Int)) (Or.inl (by decide))
          have e08 := ak_ext_cell (ak_ext_trans e07 e8) (q := 118) (k := 9000 * p + z 2) (v := (j : Int)) (by decide) (Nat.le_refl _) (by omega)
          have n8 := ak_nd_118 (v := (j : Int)) (ak_nd_ext e8 (show z 2 < z6 2 by omega) n7)
          have s8 := ak_sub_cell (ak_sub_ext s7 e8) (q := 118) (j := 9000 * p + z 2) (v := (j : Int)) (by decide) (Or.inl (show 9000 * p + z 2 < 9000 * p + (z 2 + 1) by omega))
          have IP := ak_PI_put hu I8c (r := 22) (x := (j : Int) * 128 + v)
          have eP : ak_ext u p (ak_zu (ak_zu z6 0 (z6 0 + 1)) 0 (z6 0 + 1 + 1)) (ak_zu (ak_zu (ak_zu z6 0 (z6 0 + 1)) 0 (z6 0 + 1 + 1)) 1 (z6 1 + 1)) hc8 (am_up hm8.1 118 (9000 * p + z 2) (j : Int), hm8.2) (ak_put hc8 u (z6 1) 22 ((j : Int) * 128 + v)) (am_up hm8.1 118 (9000 * p + z 2) (j : Int), hm8.2) := ak_ext_put hu
          have e0P := ak_ext_trans e08 eP
          have ew : am_w32 (am_w32 ((j : Int) * 128) + v) = (j : Int) * 128 + v := by
            rw [ak_w ((j : Int) * 128) (by omega), ak_w ((j : Int) * 128 + v) (by omega)]
          rw [ew]
          refine am_s3 (z := z6 1) hu I8.2.2.2.2.2.2.2.2.1 (show z6 1 < 9600 by omega) (lk_pass2 (dm := d + 20 * (20 - o) + 20) (ρ := ρ) hu (by decide) IP (show z6 2 ≤ 6130 by omega) (fun hc9 hm9 _ I9 e9 su9 ps9 => ?_) (fun wr ps9 => ?_))
          · have su9' : ak_st b n (z6 0 + 1 + 1) + 1 ≤ ak_st b n (z6 0 + 1 + 1 + 1) := su9
            have e9P := ak_ext_trans eP e9
            have nF := ak_nd_ext e9 (show z 2 < z6 2 by omega) (ak_nd_ext eP (show z 2 < z6 2 by omega) n8)
            have sA := ak_sub_ext s8 e9P
            refine ⟨D, _, z 2, hm9, ⟨I9, show z 0 < z6 0 + 1 + 1 + 1 by omega, ?_, ak_ext_trans e08 e9P, fun _ _ => rfl, Nat.le_refl _, show z 2 < z6 2 by omega, nF.2.2.2.2.2.1, nF.2.2.2.2.2.2, fun C M ft => ?_⟩, fun Q X g => run0 Q X (run _ X (go6 _ _ (ps7 _ _ (go8 _ _ (ps9 _ _ g)))))⟩
            · show 2 * (z6 1 + 1) + 2 + 3 * ak_st b n (z 0) + z 5 ≤ 2 * z 1 + 3 * ak_st b n (z6 0 + 1 + 1 + 1) + z6 5 ∧ z6 2 + ak_st b n (z 0) ≤ z 2 + ak_st b n (z6 0 + 1 + 1 + 1) ∧ 13 * z6 3 + ak_st b n (z 0) ≤ 13 * z 3 + ak_st b n (z6 0 + 1 + 1 + 1) ∧ 6 * z6 4 + ak_st b n (z 0) ≤ 6 * z 4 + ak_st b n (z6 0 + 1 + 1 + 1)
              omega
            · have tA := ak_sub_T sA ft (show z 1 ≤ z 1 ∧ z 2 ≤ z 2 + 1 ∧ z 3 ≤ z 3 ∧ z 4 ≤ z 4 ∧ z 5 ≤ z 5 by omega) l34 (Or.inl (show ((9000 * p + z 2 : Nat) : Int) < ((9000 * p + (z 2 + 1) : Nat) : Int) by omega))
              obtain ⟨m1, m2, m3, m4, m5, m6⟩ := ak_nd_M nF ft (Nat.le_refl _) (show z 2 < z6 2 by omega)
              have c1 := ft.1.1 (z6 1) (show z 1 ≤ z6 1 by omega) (Nat.lt_succ_self _)
              have o1 := ak_od_ext (c := z6 1) e9 (Nat.lt_succ_self _) ak_put_2
              have o2 := ak_oa_ext (c := z6 1) e9 (Nat.lt_succ_self _) ak_put_3
              have tA' : ak_X0 C M (ak_T u) p (ak_hx 222 o) (z3 2 - (z 2 + 1)) x (ak_lt Mt lv) (z 1) (z6 1) := by rw [q1']; exact tA
              intro Gd i hG hG2 hi
              have hi' : z6 2 - z 2 + 21 ≤ i + o := hi
              have ho := (ak_st_n w).2.2.1
              rw [← m2] at tA'
              refine ak_T3_fold ⟨_, rfl, Or.inr (Or.inr (Or.inr (Or.inr (Or.inr (Or.inl ⟨m1, z6 1, ak_RX_mk tA' (ak_lt_lt w) ak_hx_150 (by omega), c1.1.trans o1, ?_, by rw [m4]; exact v0, by rw [m4]; exact v100, by rw [m5]; omega, by rw [m5, ak_lt_mt w]; omega, rfl⟩)))))⟩
              rw [m4, m5]
              exact c1.2.trans o2
          · exact ⟨rfl, ((9000 * p + z 2 : Nat) : Int), _, ak_WR_s (ak_WR_ext w IP (Nat.le_refl _) e0P wr), fun Q X g => run0 Q X (run _ X (go6 _ _ (ps7 _ _ (go8 _ _ (ps9 _ _ g)))))⟩
      · have wr8 := ak_WR_cell wr (q := 118) (k := 9000 * p + z 2) (v := 0) (by decide) (by omega) (by omega)
        exact ⟨rfl, ((9000 * p + z 2 : Nat) : Int), _, ak_WR_s (ak_WR_ext w I6c (Nat.le_refl _) e06c wr8), fun Q X g => run0 Q X (run _ X (go6 _ _ (ps7 _ _ (am_w235 wr.1 (am_s209w wr8.1 g)))))⟩
    · obtain ⟨hx, hth, y6, go6⟩ := R
      subst hx
      subst hth
      have wr := ak_WR_z I4 (show z3 2 ≤ 6130 by omega)
      have wr1 := ak_WR_cell wr (q := 117) (k := 9000 * p + z 2) (v := y6) (by decide) (by omega) (by omega)
      have wr2 := ak_WR_cell wr1 (q := 118) (k := 9000 * p + z 2) (v := 0) (by decide) (by omega) (by omega)
      exact ⟨rfl, ((9000 * p + z 2 : Nat) : Int), _, ak_WR_s (ak_WR_ext w I4 (Nat.le_refl _) e4 wr2), fun Q X g => run0 Q X (run _ X (go6 _ _ (am_s209w wr1.1 (am_w235 wr1.1 (am_s209w wr2.1 g)))))⟩
  · have wr1 := ak_WR_cell wr (q := 117) (k := 9000 * p + z 2) (v := 0) (by decide) (by omega) (by omega)
    have wr2 := ak_WR_cell wr1 (q := 118) (k := 9000 * p + z 2) (v := 0) (by decide) (by omega) (by omega)
    exact ⟨rfl, ((9000 * p + z 2 : Nat) : Int), _, ak_WR_s wr2, fun Q X g => run0 Q X (run _ X (am_w220 wr.1 (am_s209w wr1.1 (am_w235 wr1.1 (am_s209w wr2.1 g)))))⟩
end LKGIVE
