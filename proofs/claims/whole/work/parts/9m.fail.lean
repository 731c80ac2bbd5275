/-! fail, both sides at once -/
section LKFAIL
variable {e : ak_X3} {d dd dm u p : Nat} {b : Nat → Int} {n m lv o Mt : Nat} {D : Nat → Nat} {z : Nat → Nat} {hc hm : ak_S} {ρ : List Nat}
theorem ak_lsl {x y : Int} : am_lsign x y < 0 ↔ x < y := by
  unfold am_lsign
  split
  · omega
  · split <;> omega
theorem ak_lsg {x y : Int} : 0 < am_lsign x y ↔ y < x := by
  unfold am_lsign
  split
  · omega
  · split <;> omega
theorem lk_fail {ρ0 ρ3 ρ4 t : Nat} (hu : u = 0 ∨ u = 1) (hE : ak_EX e u p b n m ρ0 ρ3 ρ4 ρ 34 222 13 13 t) (w : ak_PI u p b n m lv D o Mt z hc hm) (pt : ak_POT b n o 1 z) (ht : m ≤ z 0 + t) (hk : ak_kd b n (ak_st b n (z 0)) = 208) :
    ak_MV e 0 (d + 20 * (20 - o) + 24) [ρ0, ak_T u, ak_T u + 1, ρ3, ρ4] 31 [am_r 2, am_i (o : Int)] hc (ak_KQ e ρ (d + 20 * (20 - o) + 25) u p b n m lv D o Mt z hc hm) (ak_XXs e ρ (d + 20 * (20 - o) + 25) 233 u p hc hm) := by
  have tk : hm.1 110 33 = 208 := w.2.1.2.2.1.trans hk
  have p34 := w.2.1.2.2.2.1
  have hp2 := w.2.1.1.2.1
  have rm := ak_room w (by decide) pt
  have n6 := (ak_st_n w).2.1
  have o20 := (ak_st_n w).2.2.1
  have bv : 0 ≤ ((9000 * p + z 2 : Nat) : Int) ∧ ((9000 * p + z 2 : Nat) : Int) < 18000 := by omega
  have pt' := pt
  unfold ak_POT at pt'
  refine ak_MV_of (Nat.le_of_ble_eq_true rfl) (am_k31_0 hu (lk_adv (dm := d + 20 * (20 - o) + 21) (ρ := ρ) hu w (by omega) (fun hc1 hm1 I1 fr1 frm1 e1 su1 rd1 => ?_)))
  have su1' : ak_st b n (z 0) + 1 ≤ ak_st b n (z 0 + 1) := su1
  have I2 := ak_PI_node hu I1 (k := 34) (r := ((ak_st b n (z 0) : Nat) : Int))
  have e02 := ak_ext_trans e1 (ak_ext_node (hc := hc1) (hm := hm1) (p := p) (u := u) (z := ak_zu z 0 (z 0 + 1)) (k := 34) (r := ((ak_st b n (z 0) : Nat) : Int)) (show z 2 < 9000 by omega))
  have n2 : ak_nd (ak_node hm1 p (z 2) 34 ((ak_st b n (z 0) : Nat) : Int)) (9000 * p + z 2) 34 (-1) (-1) (-1) (-1) (-1) ((ak_st b n (z 0) : Nat) : Int) := ak_nd_new
  have hf2 := I2.2.2.1
  have tk2 : (ak_node hm1 p (z 2) 34 ((ak_st b n (z 0) : Nat) : Int)).1 110 33 = ak_kd b n (ak_st b n (z 0 + 1)) := I2.2.1.2.2.1
  have nu2 : ak_st b n (z 0 + 1) < n → ak_dB (b (ak_st b n (z 0 + 1))) = true → ak_nx b n (ak_st b n (z 0 + 1)) - ak_st b n (z 0 + 1) ≤ 9 → (ak_node hm1 p (z 2) 34 ((ak_st b n (z 0) : Nat) : Int)).1 110 36 = ak_nu b (ak_st b n (z 0 + 1)) (ak_nx b n (ak_st b n (z 0 + 1)) - ak_st b n (z 0 + 1)) := I2.2.1.2.2.2.2.2
  have hkC : hc1.1 3 8 = ak_kd b n (ak_st b n (z 0 + 1)) := I1.1.2.2.2.2.1
  have W := ak_WR_z I2 (show z 2 + 1 ≤ 6130 by omega)
  have runB : ¬ (ak_kd b n (ak_st b n (z 0 + 1)) = 3 ∧ 20 ≤ (ak_node hm1 p (z 2) 34 ((ak_st b n (z 0) : Nat) : Int)).1 110 36 ∧ (ak_node hm1 p (z 2) 34 ((ak_st b n (z 0) : Nat) : Int)).1 110 36 ≤ 99) → ∀ (Q : Int → ak_S → Prop) (X : Nat → ak_S → Prop), Q (-1) (ak_wr (ak_node hm1 p (z 2) 34 ((ak_st b n (z 0) : Nat) : Int))) → ak_MI e 1 (d + 20 * (20 - o) + 25) ρ 233 [am_r 110] hm Q X := by
    intro no Q X g
    refine am_p233_208 tk ?_
    rw [p34]
    have tail : ak_MV e 1 (d + 20 * (20 - o) + 24) ρ 207 [am_r 110, am_i ((ak_node hm1 p (z 2) 34 ((ak_st b n (z 0) : Nat) : Int)).1 110 34)] (ak_node hm1 p (z 2) 34 ((ak_st b n (z 0) : Nat) : Int)) (fun h38 =>
            ak_W0 e 1 (d + 20 * (20 - o) + 24) 233 ρ 651 [some (am_r 110), none, some (am_i ((9000 * p + z 2 : Nat) : Int)), none, none, none, none, none] [] h38 (ak_qi Q X)) (fun _ _ => False) :=
      am_s207 (fun _ => am_k233_651 (am_w206 W.1 ⟨fun q => absurd q (by decide), fun _ => g⟩)) (fun q => absurd q (Int.not_le.mpr hf2))
    refine rd1 _ _ (am_s212 I1.2.1.1.1 hp2 I1.2.2.2.2.2.2.2.2.2.1 (show z 2 < 9000 by omega) ⟨fun _ => tail, fun q3 => ⟨fun _ => tail, fun q20 => ⟨fun q99 => ?_, fun _ => tail⟩⟩⟩)
    exact absurd ⟨tk2.symm.trans q3, q20, q99⟩ no
  have badC : ¬ (ak_kd b n (ak_st b n (z 0 + 1)) = 3 ∧ 20 ≤ (ak_node hm1 p (z 2) 34 ((ak_st b n (z 0) : Nat) : Int)).1 110 36 ∧ (ak_node hm1 p (z 2) 34 ((ak_st b n (z 0) : Nat) : Int)).1 110 36 ≤ 99) → ak_W0 e 0 (d + 20 * (20 - o) + 23) 31 [ρ0, ak_T u, ak_T u + 1, ρ3, ρ4] 51 [some (am_r 2), some (am_i (o : Int)), none] [am_i 0] hc1 (ak_qv (ak_KQ e ρ (d + 20 * (20 - o) + 25) u p b n m lv D o Mt z hc hm) (ak_XXs e ρ (d + 20 * (20 - o) + 25) 233 u p hc hm)) :=
    fun no => am_k31_51 hu (am_s10 hu (fun q => absurd rfl q) (fun _ => ⟨rfl, -1, _, ak_WR_s (ak_WR_ext w I2 (Nat.le_refl _) e02 W), fun Q X g => runB no Q X g⟩))
  refine ⟨fun k3 => badC (fun q => k3 (hkC.trans q.1)), fun k3 => ?_⟩
  have k3' : ak_kd b n (ak_st b n (z 0 + 1)) = 3 := hkC.symm.trans k3
  obtain ⟨hin, hd9, hl9, hnu, hv⟩ := ak_kd_num k3'
  have v10 : hc1.2.1 3 10 = ak_nu b (ak_st b n (z 0 + 1)) (ak_nx b n (ak_st b n (z 0 + 1)) - ak_st b n (z 0 + 1)) := by
    rw [I1.1.2.2.2.2.2.2]
    exact hv _ (I1.1.2.1 _ I1.1.1.1).2.2
  have n36 := nu2 hin hd9 hl9
  rw [v10]
  refine ⟨fun q => badC (fun g => ?_), fun q20 => ⟨fun q => badC (fun g => ?_), fun q99 => ?_⟩⟩
  · have := ak_lsl.mp q
    omega
  · have := ak_lsg.mp q
    omega
  have l20 : 20 ≤ ak_nu b (ak_st b n (z 0 + 1)) (ak_nx b n (ak_st b n (z 0 + 1)) - ak_st b n (z 0 + 1)) := by
    refine Int.not_lt.mp (fun q => ?_)
    have := ak_lsl.mpr q
    omega
  have l99 : ak_nu b (ak_st b n (z 0 + 1)) (ak_nx b n (ak_st b n (z 0 + 1)) - ak_st b n (z 0 + 1)) ≤ 99 := by
    refine Int.not_lt.mp (fun q => ?_)
    have := ak_lsg.mpr q
    omega
  generalize hN : ak_nu b (ak_st b n (z 0 + 1)) (ak_nx b n (ak_st b n (z 0 + 1)) - ak_st b n (z 0 + 1)) = N at v10 n36 l20 l99
  have runG : ∀ (Q : Int → ak_S → Prop) (X : Nat → ak_S → Prop), ak_MV e 1 (d + 20 * (20 - o) + 24) ρ 205 [am_r 110] (am_up (ak_node hm1 p (z 2) 34 ((ak_st b n (z 0) : Nat) : Int)).1 116 (9000 * p + z 2) N, (ak_node hm1 p (z 2) 34 ((ak_st b n (z 0) : Nat) : Int)).2) (fun h3 =>
        ak_MI e 1 (d + 20 * (20 - o) + 24) ρ 208 [am_r 110, am_i 44] h3 (fun v5 h4 =>
          (v5 = 0 →
            ak_MV e 1 (d + 20 * (20 - o) + 24) ρ 209 [am_r 110, am_i 59] h4 (fun h6 =>
              Q ((9000 * p + z 2 : Nat) : Int) h6) (fun _ _ => False))
          ∧ (v5 ≠ 0 →
            ak_MV e 1 (d + 20 * (20 - o) + 24) ρ 205 [am_r 110] h4 (fun h7 =>
              ak_MI e 1 (d + 20 * (20 - o) + 24) ρ 222 [am_r 110] h7 (fun v9 h8 =>
                ak_MV e 1 (d + 20 * (20 - o) + 24) ρ 209 [am_r 110, am_i 59] (am_up h8.1 115 (9000 * p + z 2) v9, h8.2) (fun h10 =>
                  Q ((9000 * p + z 2 : Nat) : Int) h10) (fun _ _ => False)) (fun _ _ => False)) (fun _ _ => False))) (fun _ _ => False)) (fun _ _ => False) → ak_MI e 1 (d + 20 * (20 - o) + 25) ρ 233 [am_r 110] hm Q X := by
    intro Q X g
    refine am_p233_208 tk ?_
    rw [p34]
    refine rd1 _ _ (am_s212 I1.2.1.1.1 hp2 I1.2.2.2.2.2.2.2.2.2.1 (show z 2 < 9000 by omega) ⟨fun q => absurd (tk2.trans k3') q, fun _ => ⟨fun q => absurd (show (ak_node hm1 p (z 2) 34 ((ak_st b n (z 0) : Nat) : Int)).1 110 36 < 20 from q) (by omega), fun _ => ⟨fun _ => ?_, fun q => absurd (show 99 < (ak_node hm1 p (z 2) 34 ((ak_st b n (z 0) : Nat) : Int)).1 110 36 from q) (by omega)⟩⟩⟩)
    show ak_W0 e 1 (d + 20 * (20 - o) + 24) 233 ρ 651 [some (am_r 110), none, some (am_i ((9000 * p + z 2 : Nat) : Int)), none, none, none, none, none] [] (ak_node hm1 p (z 2) 34 ((ak_st b n (z 0) : Nat) : Int)) (ak_qi Q X)
    refine am_k233_651 (am_s206 (fun _ => ⟨fun _ => ⟨bv, ?_⟩, fun q => absurd rfl q⟩) (fun q => absurd q (Int.not_le.mpr hf2)))
    rw [ak_natn, n36]
    exact ak_MV_imp g (fun h3 g2 => ak_MI_imp g2 (fun v5 h4 g3 => ⟨g3.1, fun q => ak_MV_imp (g3.2 q) (fun h7 g4 => ak_MI_imp g4 (fun v9 h8 g5 => ⟨bv, g5⟩) (fun _ _ q => q)) (fun _ _ q => q)⟩) (fun _ _ q => q)) (fun _ _ q => q)
  have I3 := ak_PI_cell hu I2 (q := 116) (k := 9000 * p + z 2) (v := N) (Or.inl (by decide))
  have e03 := ak_ext_cell e02 (q := 116) (k := 9000 * p + z 2) (v := N) (by decide) (Nat.le_refl _) (by omega)
  have n3 := ak_nd_116 (v := N) n2
  have wN : am_w32 N = N := ak_w N (by omega)
  refine am_k31_51 hu (am_s10 hu (fun _ => lk_adv (dm := d + 20 * (20 - o) + 21) (ρ := ρ) hu I3 (show ak_kd b n (ak_st b n (z 0 + 1)) ≠ 0 by omega) (fun hc4 hm4 I4 fr4 frm4 e4 su4 rd4 => ?_)) (fun q => absurd q (by decide)))
  rw [v10, wN]
  have su4' : ak_st b n (z 0 + 1) + 1 ≤ ak_st b n (z 0 + 1 + 1) := su4
  have e04 := ak_ext_trans e03 e4
  have n4 := ak_nd_ext e4 (show z 2 < z 2 + 1 by omega) n3
  have hf4 := I4.2.2.1
  have tk4 : hm4.1 110 33 = ak_kd b n (ak_st b n (z 0 + 1 + 1)) := I4.2.1.2.2.1
  have hkC4 : hc4.1 3 8 = ak_kd b n (ak_st b n (z 0 + 1 + 1)) := I4.1.2.2.2.2.1
  refine ⟨fun k44 => ?_, fun k44 => ?_⟩
  · have I5 := ak_PI_put hu I4 (r := 1) (x := 0)
    have e5 := ak_ext_put (p := p) (z := ak_zu (ak_zu (ak_zu z 0 (z 0 + 1)) 2 (z 2 + 1)) 0 (z 0 + 1 + 1)) (hc := hc4) (hm := hm4) (r := 1) (x := 0) hu
    have e05 := ak_ext_trans e04 e5
    have run : ∀ (Q : Int → ak_S → Prop) (X : Nat → ak_S → Prop), ak_MV e 1 (d + 20 * (20 - o) + 24) ρ 209 [am_r 110, am_i 59] hm4 (fun h6 => Q ((9000 * p + z 2 : Nat) : Int) h6) (fun _ _ => False) → ak_MI e 1 (d + 20 * (20 - o) + 25) ρ 233 [am_r 110] hm Q X :=
      fun Q X g => runG Q X (rd4 _ _ (am_s208 (fun _ q => absurd (hkC4.trans (tk4.symm.trans q)) k44) (fun _ => ⟨fun _ => g, fun q => absurd rfl q⟩)))
    refine am_s3 hu I4.2.2.2.2.2.2.2.2.1 (show z 1 < 9600 by omega) (lk_pass2 (dm := d + 20 * (20 - o) + 20) (ρ := ρ) hu (by decide) I5 (show z 2 + 1 ≤ 6130 by omega) (fun hc6 hm6 _ I6 e6 su6 ps6 => ?_) (fun wr ps6 => ?_))
    · have su6' : ak_st b n (z 0 + 1 + 1) + 1 ≤ ak_st b n (z 0 + 1 + 1 + 1) := su6
      have I7 := ak_PI_put hu I6 (r := 35) (x := N)
      have e7 := ak_ext_put (p := p) (z := ak_zu (ak_zu (ak_zu (ak_zu (ak_zu z 0 (z 0 + 1)) 2 (z 2 + 1)) 0 (z 0 + 1 + 1)) 1 (z 1 + 1)) 0 (z 0 + 1 + 1 + 1)) (hc := hc6) (hm := hm6) (r := 35) (x := N) hu
      have e67 := ak_ext_trans e6 e7
      have nF := ak_nd_ext e67 (show z 2 < z 2 + 1 by omega) (ak_nd_ext e5 (show z 2 < z 2 + 1 by omega) n4)
      have u1 := ak_od_ext (c := z 1) e67 (show z 1 < z 1 + 1 by omega) (ak_put_2 (hc := hc4) (u := u) (c := z 1) (r := 1) (v := 0))
      refine am_s3 hu I6.2.2.2.2.2.2.2.2.1 (show z 1 + 1 < 9600 by omega) ?_
      refine ⟨D, _, z 2, _, ⟨I7, show z 0 < z 0 + 1 + 1 + 1 by omega, ?_, ak_ext_trans e05 e67, fun _ _ => rfl, Nat.le_refl _, show z 2 < z 2 + 1 by omega, nF.2.2.2.2.2.1, nF.2.2.2.2.2.2, fun C M ft => ?_⟩, fun Q X g => run Q X (ps6 _ _ g)⟩
      · show 2 * (z 1 + 1 + 1) + 2 + 3 * ak_st b n (z 0) + z 5 ≤ 2 * z 1 + 3 * ak_st b n (z 0 + 1 + 1 + 1) + z 5 ∧ z 2 + 1 + ak_st b n (z 0) ≤ z 2 + ak_st b n (z 0 + 1 + 1 + 1) ∧ 13 * z 3 + ak_st b n (z 0) ≤ 13 * z 3 + ak_st b n (z 0 + 1 + 1 + 1) ∧ 6 * z 4 + ak_st b n (z 0) ≤ 6 * z 4 + ak_st b n (z 0 + 1 + 1 + 1)
        omega
      · obtain ⟨m1, m2, m3, m4, m5, m6⟩ := ak_nd_M nF ft (Nat.le_refl _) (show z 2 < z 2 + 1 by omega)
        have c1 := ft.1.1 (z 1) (Nat.le_refl _) (show z 1 < z 1 + 1 + 1 by omega)
        have c2 := ft.1.1 (z 1 + 1) (by omega) (Nat.lt_succ_self _)
        intro Gd i _ _ _
        exact ak_T3_fold ⟨_, rfl, Or.inr (Or.inr (Or.inr (Or.inr (Or.inr (Or.inr (Or.inr (Or.inr (Or.inr (Or.inr (Or.inr (Or.inr (Or.inr (Or.inl ⟨m1, by rw [m3]; exact l20, by rw [m3]; exact l99, Or.inl ⟨m2, c1.1.trans u1, c2.1.trans ak_put_2, (c2.2.trans ak_put_3).trans m3.symm, rfl⟩⟩)))))))))))))⟩
    · exact ⟨rfl, ((9000 * p + z 2 : Nat) : Int), _, ak_WR_s (ak_WR_ext w I5 (Nat.le_refl _) e05 wr), fun Q X g => run Q X (ps6 _ _ g)⟩
  · refine lk_adv (dm := d + 20 * (20 - o) + 21) (ρ := ρ) hu I4 (show ak_kd b n (ak_st b n (z 0 + 1 + 1)) ≠ 0 by omega) (fun hc5 hm5 I5 fr5 frm5 e5 su5 rd5 => ?_)
    have su5' : ak_st b n (z 0 + 1 + 1) + 1 ≤ ak_st b n (z 0 + 1 + 1 + 1) := su5
    have e05 := ak_ext_trans e04 e5
    have n5 := ak_nd_ext e5 (show z 2 < z 2 + 1 by omega) n4
    have run : ∀ (Q : Int → ak_S → Prop) (X : Nat → ak_S → Prop), ak_MI e 1 (d + 20 * (20 - o) + 24) ρ 222 [am_r 110] hm5 (fun v9 h8 =>
                ak_MV e 1 (d + 20 * (20 - o) + 24) ρ 209 [am_r 110, am_i 59] (am_up h8.1 115 (9000 * p + z 2) v9, h8.2) (fun h10 =>
                  Q ((9000 * p + z 2 : Nat) : Int) h10) (fun _ _ => False)) (fun _ _ => False) → ak_MI e 1 (d + 20 * (20 - o) + 25) ρ 233 [am_r 110] hm Q X :=
      fun Q X g => runG Q X (rd4 _ _ (am_s208 (fun _ _ => ⟨fun q => absurd q (by decide), fun _ => rd5 _ _ g⟩) (fun q => absurd ⟨hf4, tk4.trans (hkC4.symm.trans k44)⟩ q)))
    have pt5 : ak_POT b n o 2 (ak_zu (ak_zu (ak_zu (ak_zu z 0 (z 0 + 1)) 2 (z 2 + 1)) 0 (z 0 + 1 + 1)) 0 (z 0 + 1 + 1 + 1)) := by
      unfold ak_POT
      show 2 * z 1 ≤ 3 * ak_st b n (z 0 + 1 + 1 + 1) + z 5 + 10 * o + 3 * 2 ∧ z 2 + 1 ≤ ak_st b n (z 0 + 1 + 1 + 1) + 2 * o + 2 ∧ 13 * z 3 ≤ ak_st b n (z 0 + 1 + 1 + 1) + 13 * o ∧ 6 * z 4 ≤ ak_st b n (z 0 + 1 + 1 + 1)
      omega
    refine lk_ecell (q := 115) (y := z 2) (dd := d + 20 * (20 - o) + 23) hu (by decide) (by omega) hE I5 pt5 (show m ≤ z 0 + 1 + 1 + 1 + t by omega) (show z 2 < z 2 + 1 by omega) (fun z6 x hc6 hm6 I6 l6 r6 pt6 rm6 e6 s6 go6 => ?_) (fun hcx x hmx wr go6 => ?_)
    · have le6 := ak_ext_le e6
      have le62 : z 2 + 1 ≤ z6 2 := le6.2.2.1
      have le61 : z 1 ≤ z6 1 := le6.2.1
      have le64 : z 4 ≤ z6 4 := le6.2.2.2.2.1
      have l6' : z 0 + 1 + 1 + 1 < z6 0 := l6
      have r6' : 2 * z6 1 + 1 + 3 * ak_st b n (z 0 + 1 + 1 + 1) + z 5 ≤ 2 * z 1 + 3 * ak_st b n (z6 0) + z6 5 ∧ z6 2 + ak_st b n (z 0 + 1 + 1 + 1) ≤ z 2 + 1 + ak_st b n (z6 0) ∧ 13 * z6 3 + ak_st b n (z 0 + 1 + 1 + 1) ≤ 13 * z 3 + ak_st b n (z6 0) ∧ 6 * z6 4 + ak_st b n (z 0 + 1 + 1 + 1) ≤ 6 * z 4 + ak_st b n (z6 0) := r6
      have n6' := ak_nd_115 (v := x) (ak_nd_ext e6 (show z 2 < z 2 + 1 by omega) n5)
      have e06 := ak_ext_cell (ak_ext_trans e05 e6) (q := 115) (k := 9000 * p + z 2) (v := x) (by decide) (Nat.le_refl _) (by omega)
      refine lk_pass2 (dm := d + 20 * (20 - o) + 20) (ρ := ρ) hu (by decide) I6 (by omega) (fun hc7 hm7 _ I7 e7 su7 ps7 => ?_) (fun wr ps7 => ?_)
      · have su7' : ak_st b n (z6 0) + 1 ≤ ak_st b n (z6 0 + 1) := su7
        have IP := ak_PI_put hu I7 (r := 35) (x := N)
        have eP := ak_ext_put (p := p) (z := ak_zu z6 0 (z6 0 + 1)) (hc := hc7) (hm := hm7) (r := 35) (x := N) hu
        have e7P := ak_ext_trans e7 eP
        have nF := ak_nd_ext e7P (show z 2 < z6 2 by omega) n6'
        have sF := ak_sub_ext s6 e7P
        refine am_s3 hu I7.2.2.2.2.2.2.2.2.1 (show z6 1 < 9600 by omega) ?_
        refine ⟨D, _, z 2, _, ⟨IP, show z 0 < z6 0 + 1 by omega, ?_, ak_ext_trans e06 e7P, fun _ _ => rfl, Nat.le_refl _, show z 2 < z6 2 by omega, nF.2.2.2.2.2.1, nF.2.2.2.2.2.2, fun C M ft => ?_⟩, fun Q X g => run Q X (go6 _ _ (ps7 _ _ g))⟩
        · show 2 * (z6 1 + 1) + 2 + 3 * ak_st b n (z 0) + z 5 ≤ 2 * z 1 + 3 * ak_st b n (z6 0 + 1) + z6 5 ∧ z6 2 + ak_st b n (z 0) ≤ z 2 + ak_st b n (z6 0 + 1) ∧ 13 * z6 3 + ak_st b n (z 0) ≤ 13 * z 3 + ak_st b n (z6 0 + 1) ∧ 6 * z6 4 + ak_st b n (z 0) ≤ 6 * z 4 + ak_st b n (z6 0 + 1)
          omega
        · have tA := ak_sub_T sF ft (show z 1 ≤ z 1 ∧ z 2 ≤ z 2 + 1 ∧ z 3 ≤ z 3 ∧ z 4 ≤ z 4 ∧ z 5 ≤ z 5 by omega) le64 (Or.inl (show ((9000 * p + z 2 : Nat) : Int) < ((9000 * p + (z 2 + 1) : Nat) : Int) by omega))
          obtain ⟨m1, m2, m3, m4, m5, m6⟩ := ak_nd_M nF ft (Nat.le_refl _) (show z 2 < z6 2 by omega)
          have c1 := ft.1.1 (z6 1) le61 (Nat.lt_succ_self _)
          have tA' : ak_X0 C M (ak_T u) p (ak_hx 222 o) (z6 2 - (z 2 + 1)) x (ak_lt Mt lv) (z 1) (z6 1) := tA
          intro Gd i hG hG2 hi
          have hi' : z6 2 - z 2 + 21 ≤ i + o := hi
          have ho := (ak_st_n w).2.2.1
          rw [← m2] at tA'
          exact ak_T3_fold ⟨_, rfl, Or.inr (Or.inr (Or.inr (Or.inr (Or.inr (Or.inr (Or.inr (Or.inr (Or.inr (Or.inr (Or.inr (Or.inr (Or.inr (Or.inl ⟨m1, by rw [m3]; exact l20, by rw [m3]; exact l99, Or.inr ⟨z6 1, ak_RX_mk tA' (ak_lt_lt w) ak_hx_150 (by omega), c1.1.trans ak_put_2, (c1.2.trans ak_put_3).trans m3.symm, rfl⟩⟩)))))))))))))⟩
      · exact ⟨rfl, ((9000 * p + z 2 : Nat) : Int), _, ak_WR_s (ak_WR_ext w I6 (Nat.le_refl _) e06 wr), fun Q X g => run Q X (go6 _ _ (ps7 _ _ g))⟩
    · exact ⟨rfl, ((9000 * p + z 2 : Nat) : Int), _, ak_WR_s (ak_WR_ext w I5 (Nat.le_refl _) e05 wr), fun Q X g => run Q X (go6 _ _ (am_s209w wr.1 g))⟩
end LKFAIL
