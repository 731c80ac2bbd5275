/-! a primary, from its first token -/
section LKPM
variable {e : ak_X3} {d u p : Nat} {b : Nat → Int} {n m lv o Mt : Nat} {D : Nat → Nat} {z : Nat → Nat} {hc hm : ak_S} {ρ : List Nat}
theorem am_p228_40 {Q : Int → ak_S → Prop} {X : Nat → ak_S → Prop} (hf : hm.1 110 37 < 0) (hk : hm.1 110 33 = 40) (g :
    ak_MV e 1 (d + 1) ρ 210 [am_r 110, am_i 40] hm (fun h13 =>
          ak_MI e 1 (d + 1) ρ 222 [am_r 110] h13 (fun v15 h14 =>
            ak_MV e 1 (d + 1) ρ 211 [am_r 110, am_i 41] h14 (fun h16 =>
              Q v15 h16) (fun _ _ => False)) (fun _ _ => False)) (fun _ _ => False)) : ak_MI e 1 (d + 2) ρ 228 [am_r 110] hm Q X := by
  refine ak_MI_of (Nat.le_of_ble_eq_true rfl) (am_k228_0 (am_s206 (fun _ => ⟨fun _ => ?_, fun q => absurd rfl q⟩) (fun q => absurd q (by omega))))
  exact ⟨trivial, fun q => absurd hk q.2.2.1, fun q => absurd (q.symm.trans hk) (by decide), fun q => absurd (q.symm.trans hk) (by decide), fun _ => g, fun q => absurd (q.symm.trans hk) (by decide), fun q => absurd (q.symm.trans hk) (by decide), fun q => absurd (q.symm.trans hk) (by decide), fun q => absurd (q.symm.trans hk) (by decide), fun q => absurd (q.symm.trans hk) (by decide), fun q => absurd (q.symm.trans hk) (by decide), fun q => absurd (q.symm.trans hk) (by decide), trivial⟩
theorem am_p228_91 {Q : Int → ak_S → Prop} {X : Nat → ak_S → Prop} (hf : hm.1 110 37 < 0) (hk : hm.1 110 33 = 91) (g :
    ak_MI e 1 (d + 1) ρ 229 [am_r 110] hm (fun v18 h17 =>
          Q v18 h17) (fun _ _ => False)) : ak_MI e 1 (d + 2) ρ 228 [am_r 110] hm Q X := by
  refine ak_MI_of (Nat.le_of_ble_eq_true rfl) (am_k228_0 (am_s206 (fun _ => ⟨fun _ => ?_, fun q => absurd rfl q⟩) (fun q => absurd q (by omega))))
  exact ⟨trivial, fun q => absurd hk q.2.2.2.1, fun q => absurd (q.symm.trans hk) (by decide), fun q => absurd (q.symm.trans hk) (by decide), fun q => absurd (q.symm.trans hk) (by decide), fun _ => g, fun q => absurd (q.symm.trans hk) (by decide), fun q => absurd (q.symm.trans hk) (by decide), fun q => absurd (q.symm.trans hk) (by decide), fun q => absurd (q.symm.trans hk) (by decide), fun q => absurd (q.symm.trans hk) (by decide), fun q => absurd (q.symm.trans hk) (by decide), trivial⟩
theorem am_p228_218 {y : Nat} {Q : Int → ak_S → Prop} {X : Nat → ak_S → Prop} (hf : hm.1 110 37 < 0) (hk : hm.1 110 33 = 218) (hp : hm.1 110 31 = (p : Int)) (hp2 : p < 2) (hz : hm.1 121 p = (y : Int)) (hy : y < 9000) (g :
    ak_MV e 1 (d + 1) ρ 205 [am_r 110] (ak_node hm p y 6 0) (fun h21 =>
      ak_MV e 1 (d + 1) ρ 210 [am_r 110, am_i 40] h21 (fun h22 =>
        ak_MI e 1 (d + 1) ρ 222 [am_r 110] h22 (fun v24 h23 =>
          ak_MV e 1 (d + 1) ρ 211 [am_r 110, am_i 41] (am_up h23.1 115 (9000 * p + y) v24, h23.2) (fun h25 =>
            Q ((9000 * p + y : Nat) : Int) h25) (fun _ _ => False)) (fun _ _ => False)) (fun _ _ => False)) (fun _ _ => False)) : ak_MI e 1 (d + 2) ρ 228 [am_r 110] hm Q X := by
  have b : 0 ≤ ((9000 * p + y : Nat) : Int) ∧ ((9000 * p + y : Nat) : Int) < 18000 := by omega
  have g2 : ak_MI e 1 (d + 1) ρ 212 [am_r 110, am_i 6, am_i 0] hm (fun v20 h19 =>
          ak_MV e 1 (d + 1) ρ 205 [am_r 110] h19 (fun h21 =>
            ak_MV e 1 (d + 1) ρ 210 [am_r 110, am_i 40] h21 (fun h22 =>
              ak_MI e 1 (d + 1) ρ 222 [am_r 110] h22 (fun v24 h23 =>
                (0 ≤ v20 ∧ v20 < (18000 : Int)) ∧ ak_MV e 1 (d + 1) ρ 211 [am_r 110, am_i 41] ((am_up h23.1 115 v20.toNat v24), h23.2) (fun h25 =>
                  Q v20 h25) (fun _ _ => False)) (fun _ _ => False)) (fun _ _ => False)) (fun _ _ => False)) (fun _ _ => False) := by
    refine am_s212 hp hp2 hz hy ?_
    refine ak_MV_imp g (fun h21 g1 => ak_MV_imp g1 (fun h22 g2 => ak_MI_imp g2 (fun v24 h23 g3 => ⟨b, ?_⟩) (fun _ _ q => q)) (fun _ _ q => q)) (fun _ _ q => q)
    rw [ak_natn]
    exact g3
  refine ak_MI_of (Nat.le_of_ble_eq_true rfl) (am_k228_0 (am_s206 (fun _ => ⟨fun _ => ?_, fun q => absurd rfl q⟩) (fun q => absurd q (by omega))))
  exact ⟨trivial, fun q => absurd hk q.2.2.2.2.1, fun q => absurd (q.symm.trans hk) (by decide), fun q => absurd (q.symm.trans hk) (by decide), fun q => absurd (q.symm.trans hk) (by decide), fun q => absurd (q.symm.trans hk) (by decide), fun _ => g2, fun q => absurd (q.symm.trans hk) (by decide), fun q => absurd (q.symm.trans hk) (by decide), fun q => absurd (q.symm.trans hk) (by decide), fun q => absurd (q.symm.trans hk) (by decide), fun q => absurd (q.symm.trans hk) (by decide), trivial⟩
theorem am_p228_223 {Q : Int → ak_S → Prop} {X : Nat → ak_S → Prop} (hf : hm.1 110 37 < 0) (hk : hm.1 110 33 = 223) (g :
    ak_MV e 1 (d + 1) ρ 205 [am_r 110] hm (fun h26 =>
          ak_MV e 1 (d + 1) ρ 209 [am_r 110, am_i 46] h26 (fun h27 =>
            ak_MI e 1 (d + 1) ρ 219 [am_r 110, am_i 1] h27 (fun v29 h28 =>
              ak_MI e 1 (d + 1) ρ 206 [am_r 110] h28 (fun v31 h30 =>
                (v31 = 0 →
                  (h30.1 110 33 ≠ 40 →
                    ak_W0 e 1 (d + 1) 228 ρ 312 [some (am_r 110), none, some (am_i v29), none] [am_i ((-1))] ((am_up h30.1 110 45 0), h30.2) (ak_qi Q X))
                  ∧ (h30.1 110 33 = 40 →
                    ak_MI e 1 (d + 1) ρ 221 [am_r 110] ((am_up h30.1 110 45 0), h30.2) (fun v33 h32 =>
                      ak_W0 e 1 (d + 1) 228 ρ 312 [some (am_r 110), none, some (am_i v29), none] [am_i v33] h32 (ak_qi Q X)) (fun _ _ => False)))
                ∧ (v31 ≠ 0 →
                  Q ((-1)) h30)) (fun _ _ => False)) (fun _ _ => False)) (fun _ _ => False)) (fun _ _ => False)) : ak_MI e 1 (d + 2) ρ 228 [am_r 110] hm Q X := by
  refine ak_MI_of (Nat.le_of_ble_eq_true rfl) (am_k228_0 (am_s206 (fun _ => ⟨fun _ => ?_, fun q => absurd rfl q⟩) (fun q => absurd q (by omega))))
  exact ⟨trivial, fun q => absurd hk q.2.2.2.2.2.2.2.2.2.1, fun q => absurd (q.symm.trans hk) (by decide), fun q => absurd (q.symm.trans hk) (by decide), fun q => absurd (q.symm.trans hk) (by decide), fun q => absurd (q.symm.trans hk) (by decide), fun q => absurd (q.symm.trans hk) (by decide), fun q => absurd (q.symm.trans hk) (by decide), fun q => absurd (q.symm.trans hk) (by decide), fun q => absurd (q.symm.trans hk) (by decide), fun q => absurd (q.symm.trans hk) (by decide), fun _ => g, trivial⟩
theorem lk_paren {ρ0 ρ3 ρ4 t : Nat} (hu : u = 0 ∨ u = 1) (hX : ∀ t', t' < t → ak_EX e u p b n m ρ0 ρ3 ρ4 ρ 34 222 13 13 t') (w : ak_PI u p b n m lv D o Mt z hc hm) (pt : ak_POT b n o 2 z) (ht : m ≤ z 0 + t) (k40 : ak_kd b n (ak_st b n (z 0)) = 40) :
    ak_MV e 0 (d + 20 * (20 - o) + 7) [ρ0, ak_T u, ak_T u + 1, ρ3, ρ4] 45 [am_r 2, am_i (o : Int)] hc (ak_XQ e ρ (d + 20 * (20 - o) + 8) 228 u p b n m lv D o Mt z hc hm) (ak_XX e ρ (d + 20 * (20 - o) + 8) 228 u p hc hm) := by
  have tk := w.2.1.2.2.1
  have hf := w.2.2.1
  have rm := ak_room w (by decide) pt
  have hp2 := w.2.1.1.2.1
  have hT := ak_T_in hu
  have run : ∀ (Q : Int → ak_S → Prop) (X : Nat → ak_S → Prop), _ → ak_MI e 1 (d + 20 * (20 - o) + 8) ρ 228 [am_r 110] hm Q X := fun Q X => am_p228_40 (d := d + 20 * (20 - o) + 6) hf (tk.trans k40)
  refine ak_MV_imp (lk_inner (dd := d + 20 * (20 - o) + 6) (by omega) hu hX w pt ht) (fun hc1 R => ?_) (fun ex hcx R => ?_)
  · obtain ⟨ho, z2, x, hc2, hm1, hm2, op, go, I2, l2, r2, e2, T2, k41, C1, fr⟩ := R
    obtain ⟨hm3, I3, e3, cl, -⟩ := lk_close (e := e) (ρ := ρ) (dm := d + 20 * (20 - o) + 2) hu I2 (ak_lvo w) k41 C1 fr
    have su := ak_st_up I2.1 (ak_cc_lt I2.1 (by rw [k41]; decide))
    refine ⟨_, x, hm3, ⟨I3, show z 0 < z2 0 + 1 by omega, ?_, ak_ext_trans e2 e3, fun C M ft k i hk hi => T2 C M (ak_fut_fst ft e2 e3 (Or.inl rfl)) k i (Nat.le_trans (by have e2 : ak_hx 222 (o + 1) = 7 * (20 - (o + 1)) + 7 := rfl; have e3 : ak_hx 228 o = 7 * (20 - o) + 4 := rfl; omega) hk) hi⟩, fun Q X g => run Q X (op _ _ (go _ _ (cl _ _ g)))⟩
    show 2 * z2 1 + 1 + 3 * ak_st b n (z 0) + z 5 ≤ 2 * z 1 + 3 * ak_st b n (z2 0 + 1) + z2 5 ∧ z2 2 + ak_st b n (z 0) ≤ z 2 + ak_st b n (z2 0 + 1) ∧ 13 * z2 3 + ak_st b n (z 0) ≤ 13 * z 3 + ak_st b n (z2 0 + 1) ∧ 6 * z2 4 + ak_st b n (z 0) ≤ 6 * z 4 + ak_st b n (z2 0 + 1)
    omega
  · obtain ⟨hx, R⟩ := R
    refine ⟨hx, ?_⟩
    rcases R with ⟨hmx, wr, op⟩ | ⟨x, hm1, hmx, op, go, wr⟩ | ⟨z2, x, hc2, hm1, hm2, op, go, I2, pt2, e2, no, rfl⟩
    · obtain ⟨x, hm', wf, cl⟩ := ak_MI_get (e := e) (r := 1) (d := d + 20 * (20 - o) + 8) (ρ := ρ) (j := 228) (ar := [am_r 110]) (h := hm) (Q := fun _ h' => ak_wf hmx h') (run _ ak_F (op _ _ (am_w222 wr.1 (am_w211 wr.1 (fun h' wf => wf)))))
      exact ⟨x, hm', ak_WR_wf wr wf, cl⟩
    · obtain ⟨x, hm', wf, cl⟩ := ak_MI_get (e := e) (r := 1) (d := d + 20 * (20 - o) + 8) (ρ := ρ) (j := 228) (ar := [am_r 110]) (h := hm) (Q := fun _ h' => ak_wf hmx h') (run _ ak_F (op _ _ (go _ _ (am_w211 wr.1 (fun h' wf => wf)))))
      exact ⟨x, hm', ak_WR_wf wr wf, cl⟩
    · obtain ⟨hm3, wr, cl⟩ := lk_close_bad (e := e) (ρ := ρ) (dm := d + 20 * (20 - o) + 2) (by decide) I2 pt2 no
      exact ⟨x, hm3, ak_WR_ext w I2 (Nat.le_succ _) e2 wr, fun Q X g => run Q X (op _ _ (go _ _ (cl _ _ g)))⟩
theorem lk_clone {ρ0 ρ3 ρ4 t : Nat} (hu : u = 0 ∨ u = 1) (hX : ∀ t', t' < t → ak_EX e u p b n m ρ0 ρ3 ρ4 ρ 34 222 13 13 t') (w : ak_PI u p b n m lv D o Mt z hc hm) (pt : ak_POT b n o 2 z) (ht : m ≤ z 0 + t) (k218 : ak_kd b n (ak_st b n (z 0)) = 218) :
    ak_MV e 0 (d + 20 * (20 - o) + 7) [ρ0, ak_T u, ak_T u + 1, ρ3, ρ4] 128 [am_r 3] hc (fun h4 =>
      ak_MV e 0 (d + 20 * (20 - o) + 7) [ρ0, ak_T u, ak_T u + 1, ρ3, ρ4] 45 [am_r 2, am_i (o : Int)] h4 (fun h5 =>
        ak_MI e 0 (d + 20 * (20 - o) + 7) [ρ0, ak_T u, ak_T u + 1, ρ3, ρ4] 3 [am_r ((ak_T u + 1)), am_i 5, am_i 0] h5 (fun v7 h6 =>
          ak_XQ e ρ (d + 20 * (20 - o) + 8) 228 u p b n m lv D o Mt z hc hm h6) (fun _ _ => False)) (ak_XX e ρ (d + 20 * (20 - o) + 8) 228 u p hc hm)) (fun _ _ => False) := by
  have tk := w.2.1.2.2.1
  have hf := w.2.2.1
  have rm := ak_room w (by decide) pt
  have hp2 := w.2.1.1.2.1
  have hT := ak_T_in hu
  have run : ∀ (Q : Int → ak_S → Prop) (X : Nat → ak_S → Prop), _ → ak_MI e 1 (d + 20 * (20 - o) + 8) ρ 228 [am_r 110] hm Q X := fun Q X => am_p228_218 (y := z 2) (d := d + 20 * (20 - o) + 6) hf (tk.trans k218) w.2.1.1.1 hp2 w.2.2.2.2.2.2.2.2.2.1 (by omega)
  have w' := ak_PI_node hu w (k := 6) (r := 0)
  have e0 : ak_ext u p z (ak_zu z 2 (z 2 + 1)) hc hm hc (ak_node hm p (z 2) 6 0) := ak_ext_node (by omega)
  have n114 : (ak_node hm p (z 2) 6 0).1 114 (9000 * p + z 2) = 6 := by simp [ak_node, am_up]
  refine lk_adv (dm := d + 20 * (20 - o) + 4) (ρ := ρ) hu w' (show ak_kd b n (ak_st b n (z 0)) ≠ 0 by omega) (fun hc1 hm1 I1 fr fr1 e1 su rd => ?_)
  have su' : ak_st b n (z 0) + 1 ≤ ak_st b n (z 0 + 1) := su
  have pt1 : ak_POT b n o 2 (ak_zu (ak_zu z 2 (z 2 + 1)) 0 (z 0 + 1)) := by
    unfold ak_POT at pt ⊢
    show 2 * z 1 ≤ 3 * ak_st b n (z 0 + 1) + z 5 + 10 * o + 3 * 2 ∧ z 2 + 1 ≤ ak_st b n (z 0 + 1) + 2 * o + 2 ∧ 13 * z 3 ≤ ak_st b n (z 0 + 1) + 13 * o ∧ 6 * z 4 ≤ ak_st b n (z 0 + 1)
    omega
  have e01 := ak_ext_trans e0 e1
  refine ak_MV_imp (lk_inner (dd := d + 20 * (20 - o) + 6) (by omega) hu hX I1 pt1 (show m ≤ z 0 + 1 + t by omega)) (fun hc2 R => ?_) (fun ex hcx R => ?_)
  · obtain ⟨ho, z3, x, hc3, hm2, hm3, op, go, I3, l3, r3, e3, T3, k41, C1, fr2⟩ := R
    have l3' : z 0 + 1 < z3 0 := l3
    have r3' : 2 * z3 1 + 4 + 3 * ak_st b n (z 0 + 1) + z 5 ≤ 2 * z 1 + 3 * ak_st b n (z3 0) + z3 5 ∧ z3 2 + 1 + ak_st b n (z 0 + 1) ≤ z 2 + 1 + ak_st b n (z3 0) ∧ 13 * z3 3 + ak_st b n (z 0 + 1) ≤ 13 * z 3 + ak_st b n (z3 0) ∧ 6 * z3 4 + ak_st b n (z 0 + 1) ≤ 6 * z 4 + ak_st b n (z3 0) := r3
    have e03 := ak_ext_trans e01 e3
    have le3 := ak_ext_le e3
    have le3' : z 2 + 1 ≤ z3 2 := le3.2.2.1
    have I3c := ak_PI_cell hu I3 (q := 115) (k := 9000 * p + z 2) (v := x) (Or.inl (by decide))
    have e03c := ak_ext_cell e03 (q := 115) (k := 9000 * p + z 2) (v := x) (by decide) (Nat.le_refl _) (by omega)
    obtain ⟨hm4, I4, e4, cl, same, -⟩ := lk_close (e := e) (ρ := ρ) (dm := d + 20 * (20 - o) + 2) hu I3c (ak_lvo w) k41 C1 fr2
    have su3 := ak_st_up I3.1 (ak_cc_lt I3.1 (by rw [k41]; decide))
    have pt4 : ak_POT b n o 2 (ak_zu z3 0 (z3 0 + 1)) := by
      unfold ak_POT at pt ⊢
      show 2 * z3 1 ≤ 3 * ak_st b n (z3 0 + 1) + z3 5 + 10 * o + 3 * 2 ∧ z3 2 ≤ ak_st b n (z3 0 + 1) + 2 * o + 2 ∧ 13 * z3 3 ≤ ak_st b n (z3 0 + 1) + 13 * o ∧ 6 * z3 4 ≤ ak_st b n (z3 0 + 1)
      omega
    have rm4 := ak_room I4 (by decide) pt4
    have I5 := ak_PI_put hu I4 (r := 5) (x := 0)
    have e5 : ak_ext u p (ak_zu z3 0 (z3 0 + 1)) (ak_zu (ak_zu z3 0 (z3 0 + 1)) 1 (z3 1 + 1)) hc2 hm4 (ak_put hc2 u (z3 1) 5 0) hm4 := ak_ext_put hu
    have o1 : (ak_put hc2 u (z3 1) 5 0).1 (ak_T u + 2) (z3 1) = 5 := by simp [ak_put, am_up]
    have e35 := ak_ext_trans e4 e5
    refine am_s3 hu I4.2.2.2.2.2.2.2.2.1 (show z3 1 < 9600 from Nat.lt_trans rm4.1 (by decide)) ⟨_, ((9000 * p + z 2 : Nat) : Int), hm4, ⟨I5, show z 0 < z3 0 + 1 by omega, ?_, ak_ext_trans e03c e35, fun C M ft => ?_⟩, fun Q X g => run Q X (rd _ _ (op _ _ (go _ _ (cl _ _ g))))⟩
    · show 2 * (z3 1 + 1) + 1 + 3 * ak_st b n (z 0) + z 5 ≤ 2 * z 1 + 3 * ak_st b n (z3 0 + 1) + z3 5 ∧ z3 2 + ak_st b n (z 0) ≤ z 2 + ak_st b n (z3 0 + 1) ∧ 13 * z3 3 + ak_st b n (z 0) ≤ 13 * z 3 + ak_st b n (z3 0 + 1) ∧ 6 * z3 4 + ak_st b n (z 0) ≤ 6 * z 4 + ak_st b n (z3 0 + 1)
      omega
    · have f3 := ak_fut_fst (y := -1) ft e03c e35 (Or.inl rfl)
      have f4 : ak_fut u p (ak_zu (ak_zu z 2 (z 2 + 1)) 0 (z 0 + 1)) z3 (-1) hc3.1 hm3.1 C M := ak_fut_agr (ak_fut_sub f3 (show z 1 ≤ z 1 ∧ z 2 ≤ z 2 + 1 ∧ z 3 ≤ z 3 ∧ z 4 ≤ z 4 ∧ z 5 ≤ z 5 by omega)) (ak_agr_upM (show ¬ (114 ≤ 115 ∧ 115 ≤ 120 ∧ 9000 * p + (z 2 + 1) ≤ 9000 * p + z 2 ∧ 9000 * p + z 2 < 9000 * p + z3 2) by omega) (by omega))
      have b1 := (ft.1.1 (z3 1) (show z 1 ≤ z3 1 from le3.2.1) (Nat.lt_succ_self _)).1.trans o1
      have c5 : ∀ q, 114 ≤ q → q ≤ 115 → M q (9000 * p + z 2) = am_up hm3.1 115 (9000 * p + z 2) x q (9000 * p + z 2) := fun q q1 q2 => f3.1.2.2.2.2 q _ q1 (by omega) (Nat.le_refl _) (by omega) (by omega)
      have c114 : M 114 (9000 * p + z 2) = 6 := by
        rw [c5 114 (by decide) (by decide), ak_up_out (by omega), e3.2.1.2.2.2.2 114 (9000 * p + z 2) (by decide) (by decide) (by unfold ak_z0; omega) (show 9000 * p + z 2 < 9000 * p + (z 2 + 1) by omega) (by omega), fr1.1 _ _ (by omega)]
        exact n114
      have c115 : M 115 (9000 * p + z 2) = x := by
        rw [c5 115 (by decide) (by decide)]
        simp [am_up]
      intro k i hk hi
      have hi' : z3 2 - z 2 ≤ i := hi
      have hx : 7 * (20 - o) + 4 ≤ k := hk
      have e2 : ak_hx 222 (o + 1) = 7 * (20 - (o + 1)) + 7 := rfl
      refine ak_T3_fold ⟨_, rfl, ⟨by omega, by omega⟩, Or.inr (Or.inr (Or.inr (Or.inr (Or.inr (Or.inl ⟨c114, z3 1, z3 2 - (z 2 + 1), ⟨by omega, ?_⟩, b1, rfl⟩)))))⟩
      rw [c115]
      exact T3 C M f4 k _ (by omega) (Nat.le_refl _)
  · obtain ⟨hx, R⟩ := R
    refine ⟨hx, ?_⟩
    rcases R with ⟨hmx, wr, op⟩ | ⟨x, hm2, hmx, op, go, wr⟩ | ⟨z2, x, hc2, hm2, hm3, op, go, I2, pt2, e2, no, rfl⟩
    · have wr' := ak_WR_cell (ak_WR_ext w I1 (Nat.le_refl _) e01 wr) (q := 115) (k := 9000 * p + z 2) (v := -1) (by decide) (by omega) (by omega)
      obtain ⟨x, hm', wf, cl⟩ := ak_MI_get (e := e) (r := 1) (d := d + 20 * (20 - o) + 8) (ρ := ρ) (j := 228) (ar := [am_r 110]) (h := hm) (Q := fun _ h' => ak_wf (am_up hmx.1 115 (9000 * p + z 2) (-1), hmx.2) h') (run _ ak_F (rd _ _ (op _ _ (am_w222 wr.1 (am_w211 wr'.1 (fun h' wf => wf))))))
      exact ⟨x, hm', ak_WR_wf wr' wf, cl⟩
    · have wr' := ak_WR_cell (ak_WR_ext w I1 (Nat.le_refl _) e01 wr) (q := 115) (k := 9000 * p + z 2) (v := x) (by decide) (by omega) (by omega)
      obtain ⟨x', hm', wf, cl⟩ := ak_MI_get (e := e) (r := 1) (d := d + 20 * (20 - o) + 8) (ρ := ρ) (j := 228) (ar := [am_r 110]) (h := hm) (Q := fun _ h' => ak_wf (am_up hmx.1 115 (9000 * p + z 2) x, hmx.2) h') (run _ ak_F (rd _ _ (op _ _ (go _ _ (am_w211 wr'.1 (fun h' wf => wf))))))
      exact ⟨x', hm', ak_WR_wf wr' wf, cl⟩
    · have I2c := ak_PI_cell hu I2 (q := 115) (k := 9000 * p + z 2) (v := x) (Or.inl (by decide))
      have e2c := ak_ext_cell (ak_ext_trans e01 e2) (q := 115) (k := 9000 * p + z 2) (v := x) (by decide) (Nat.le_refl _) (by omega)
      obtain ⟨hm4, wr, cl⟩ := lk_close_bad (e := e) (ρ := ρ) (dm := d + 20 * (20 - o) + 2) (by decide) I2c pt2 no
      exact ⟨((9000 * p + z 2 : Nat) : Int), hm4, ak_WR_ext w I2c (Nat.le_succ _) e2c wr, fun Q X g => run Q X (rd _ _ (op _ _ (go _ _ (cl _ _ g))))⟩
theorem lk_above2 {ρ0 ρ3 ρ4 t : Nat} (hu : u = 0 ∨ u = 1) (hX : ∀ t', t' < t → ak_EX e u p b n m ρ0 ρ3 ρ4 ρ 34 222 13 13 t') (w : ak_PI u p b n m lv D o Mt z hc hm) (pt : ak_POT b n o 2 z) (ht : m ≤ z 0 + t) (k223 : ak_kd b n (ak_st b n (z 0)) = 223) :
    ak_MV e 0 (d + 20 * (20 - o) + 7) [ρ0, ak_T u, ak_T u + 1, ρ3, ρ4] 128 [am_r 3] hc (fun h8 =>
      ak_MI e 0 (d + 20 * (20 - o) + 7) [ρ0, ak_T u, ak_T u + 1, ρ3, ρ4] 3 [am_r ((ak_T u + 1)), am_i 2, am_i 0] h8 (fun v10 h9 =>
        ak_MV e 0 (d + 20 * (20 - o) + 7) [ρ0, ak_T u, ak_T u + 1, ρ3, ρ4] 40 [am_r 2, am_i 1, am_i (o : Int)] h9 (fun h11 =>
          ak_XQ e ρ (d + 20 * (20 - o) + 8) 228 u p b n m lv D o Mt z hc hm h11) (ak_XX e ρ (d + 20 * (20 - o) + 8) 228 u p hc hm)) (fun _ _ => False)) (fun _ _ => False) := by
  have tk := w.2.1.2.2.1
  have hf := w.2.2.1
  have rm := ak_room w (by decide) pt
  have hp2 := w.2.1.1.2.1
  have hT := ak_T_in hu
  have run : ∀ (Q : Int → ak_S → Prop) (X : Nat → ak_S → Prop), _ → ak_MI e 1 (d + 20 * (20 - o) + 8) ρ 228 [am_r 110] hm Q X := fun Q X => am_p228_223 (d := d + 20 * (20 - o) + 6) hf (tk.trans k223)
  refine lk_adv (dm := d + 20 * (20 - o) + 4) (ρ := ρ) hu w (by omega) (fun hc1 hm1 I1 fr fr1 e1 su rd => ?_)
  have I2 := ak_PI_put hu I1 (r := 2) (x := 0)
  have e2 : ak_ext u p (ak_zu z 0 (z 0 + 1)) (ak_zu (ak_zu z 0 (z 0 + 1)) 1 (z 1 + 1)) hc1 hm1 (ak_put hc1 u (z 1) 2 0) hm1 := ak_ext_put hu
  have e02 := ak_ext_trans e1 e2
  have o0 : (ak_put hc1 u (z 1) 2 0).1 (ak_T u + 2) (z 1) = 2 := by simp [ak_put, am_up]
  have pt2 : ak_POT b n o 2 (ak_zu (ak_zu z 0 (z 0 + 1)) 1 (z 1 + 1)) := by
    unfold ak_POT at pt ⊢
    show 2 * (z 1 + 1) ≤ 3 * ak_st b n (z 0 + 1) + z 5 + 10 * o + 3 * 2 ∧ z 2 ≤ ak_st b n (z 0 + 1) + 2 * o + 2 ∧ 13 * z 3 ≤ ak_st b n (z 0 + 1) + 13 * o ∧ 6 * z 4 ≤ ak_st b n (z 0 + 1)
    omega
  refine am_s3 hu I1.2.2.2.2.2.2.2.2.1 (show z 1 < 9600 by omega) ?_
  have hst1 := (ak_st_n I1).1
  by_cases k46 : ak_kd b n (ak_st b n (z 0 + 1)) = 46
  · obtain ⟨hm2, ⟨M2, fr2⟩, ps⟩ := ak_MV_get (e := e) (r := 1) (d := d + 20 * (20 - o) + 7) (ρ := ρ) (am_s209 (d := d + 20 * (20 - o) + 3) (t := 46) (X := ak_F) I1.2.2.1 I1.2.1 hst1 (fun _ h' c f => (⟨c, f⟩ : ak_cm b n p h' (z 0 + 1 + 1) ∧ ak_rfr hm1 h')) (fun no => absurd k46 no))
    refine ak_MV_imp (lk_msg (k := 1) (dd := d + 20 * (20 - o) + 6) (Or.inr rfl) (by omega) hu hX I2 pt2 (show m ≤ z 0 + 1 + t by omega) k46 M2 fr2) (fun hc6 R => ?_) (fun ex hcx R => ?_)
    · obtain ⟨z', kk, x, hcP, hmS, hm', rfl, A, s150, hfS, goS, alt⟩ := R
      obtain ⟨I', l', r', e', h45, hk, T'⟩ := A
      have s150' : z 7 < 150 := s150.1
      have s7 : z 7 < z' 7 := s150.2
      have l1' : z 0 + 1 < z' 0 := l'
      have r1' : 2 * z' 1 + 6 + 3 * ak_st b n (z 0 + 1) + z 5 ≤ 2 * (z 1 + 1) + 3 * ak_st b n (z' 0) + z' 5 ∧ z' 2 + 1 + ak_st b n (z 0 + 1) ≤ z 2 + ak_st b n (z' 0) ∧ 13 * z' 3 + ak_st b n (z 0 + 1) ≤ 13 * z 3 + ak_st b n (z' 0) ∧ 6 * z' 4 + ak_st b n (z 0 + 1) ≤ 6 * z 4 + ak_st b n (z' 0) := r'
      have ptx : ak_POT b n o 2 z' := by
        unfold ak_POT at pt ⊢
        omega
      have rm' := ak_room I' (by decide) ptx
      have P := lk_above (s := (z 7 : Int)) hu I' rm' e02 rfl e' (by omega) (by omega) hk (by omega) o0 T'
      have c45 : (ak_node hm' p (z' 2) 8 0).1 110 45 = (kk : Int) := (ak_node_at (by omega) (by omega)).trans h45
      have fin : ∀ (Q : Int → ak_S → Prop) (X : Nat → ak_S → Prop), Q ((9000 * p + z' 2 : Nat) : Int) (ak_three (ak_node hm' p (z' 2) 8 0) (9000 * p + z' 2) x (kk : Int) (z 7 : Int)) → ak_W0 e 1 (d + 20 * (20 - o) + 7) 228 ρ 312 [some (am_r 110), none, some (am_i (z 7 : Int)), none] [am_i x] hm' (ak_qi Q X) := by
        intro Q X g
        refine am_k228_312 (am_s206 (fun _ => ⟨fun _ => am_s212 I'.2.1.1.1 hp2 I'.2.2.2.2.2.2.2.2.2.1 (by omega) ?_, fun q => absurd rfl q⟩) (fun q => absurd q (by have := I'.2.2.1; omega)))
        rw [ak_natn, c45]
        exact ⟨by omega, by omega, by omega, g⟩
      refine ⟨_, _, _, P, fun Q X g => run Q X (rd _ _ (ps _ _ (goS _ _ (am_s206 (fun _ => ⟨fun _ => ⟨fun n40 => ?_, fun q40 => ?_⟩, fun q => absurd rfl q⟩) (fun q => absurd q (by omega))))))⟩
      · rcases alt with ⟨q, -⟩ | ⟨-, rfl, rfl⟩
        · exact absurd q n40
        · exact fin Q X g
      · rcases alt with ⟨-, goA⟩ | ⟨q, -, -⟩
        · exact goA _ _ (fin Q X g)
        · exact absurd q40 q
    · obtain ⟨hx, R⟩ := R
      refine ⟨hx, -1, ?_⟩
      rcases R with ⟨y, hmx, wr, goS⟩ | ⟨x, hmS, hmx, hfS, t40, goS, wr, goA⟩
      · exact ⟨hmx, ak_WR_ext w I2 (Nat.le_refl _) e02 wr, fun Q X g => run Q X (rd _ _ (ps _ _ (goS _ _ (am_w206 wr.1 ⟨fun q => absurd q (by decide), fun _ => g⟩))))⟩
      · exact ⟨hmx, ak_WR_ext w I2 (Nat.le_refl _) e02 wr, fun Q X g => run Q X (rd _ _ (ps _ _ (goS _ _ (am_s206 (fun _ => ⟨fun _ => ⟨fun n40 => absurd t40 n40, fun _ => goA _ _ (am_k228_312 (am_w206 wr.1 ⟨fun q => absurd q (by decide), fun _ => g⟩))⟩, fun q => absurd rfl q⟩) (fun q => absurd q (by omega))))))⟩
  · have W := ak_WR_at (by decide) I2 pt2
    refine ak_MV_of (Nat.le_of_ble_eq_true rfl) (am_k40_0 hu (am_s11 hu I2.1 (by decide) (fun k => absurd k k46) (fun _ => ?_)))
    exact ⟨rfl, -1, _, ak_WR_ext w I2 (Nat.le_refl _) e02 W, fun Q X g => run Q X (rd _ _ (am_s209 I1.2.2.1 I1.2.1 hst1 (fun k => absurd k k46) (fun _ => am_w219 W.1 (am_w206 W.1 ⟨fun q => absurd q (by decide), fun _ => g⟩))))⟩
theorem lk_primary {ρ0 ρ3 ρ4 t : Nat} (hu : u = 0 ∨ u = 1) (hX : ∀ t', t' < t → ak_EX e u p b n m ρ0 ρ3 ρ4 ρ 34 222 13 13 t') (hL : ak_LX e u p b n m ρ0 ρ3 ρ4 ρ t) : ak_EX e u p b n m ρ0 ρ3 ρ4 ρ 44 228 8 8 t := by
  intro lv D o Mt z hc hm d w pt ht
  have hkC := w.1.2.2.2.2.1
  have tk := w.2.1.2.2.1
  have hf := w.2.2.1
  refine ak_MV_of (Nat.le_of_ble_eq_true rfl) (am_k44_0 hu ?_)
  rw [hkC]
  refine ⟨trivial, fun q => ?_, fun k40 => lk_paren hu hX w pt ht k40, fun k91 => ?_, fun k218 => lk_clone hu hX w pt ht k218, fun k223 => lk_above2 hu hX w pt ht k223, trivial⟩
  · -- an atom
    by_cases k2 : ak_kd b n (ak_st b n (z 0)) = 2
    · exact ak_MV_deep (Nat.le_succ _) (lk_word (d := d + 20 * (20 - o) + 3) hu w pt k2)
    by_cases k3 : ak_kd b n (ak_st b n (z 0)) = 3
    · exact ak_MV_deep (Nat.le_succ _) (lk_num (d := d + 20 * (20 - o) + 4) hu w pt k3)
    by_cases k4 : ak_kd b n (ak_st b n (z 0)) = 219 ∨ ak_kd b n (ak_st b n (z 0)) = 220 ∨ ak_kd b n (ak_st b n (z 0)) = 221 ∨ ak_kd b n (ak_st b n (z 0)) = 222
    · exact ak_MV_deep (Nat.le_succ _) (lk_four (d := d + 20 * (20 - o) + 4) hu w pt k4)
    · refine ak_MV_deep (Nat.le_succ _) (lk_none (d := d + 20 * (20 - o) + 4) hu w pt (fun k hk h => ?_))
      obtain ⟨g1, g2, g3, g4, -⟩ := q
      omega
  · -- a block literal
    have run : ∀ (Q : Int → ak_S → Prop) (X : Nat → ak_S → Prop), _ → ak_MI e 1 (d + 20 * (20 - o) + 8) ρ 228 [am_r 110] hm Q X := fun Q X => am_p228_91 (d := d + 20 * (20 - o) + 6) hf (tk.trans k91)
    refine ak_MV_imp (hL lv D o Mt z hc hm d w pt ht k91) (fun hc1 R => ?_) (fun ex hcx R => ?_)
    · obtain ⟨z1, x1, hm1, P1, go⟩ := R
      exact ⟨z1, x1, hm1, ak_XP_up (g := 228) (g2 := 229) (Nat.le_refl _) P1, fun Q X g => run Q X (go _ _ g)⟩
    · obtain ⟨hx, x1, hmx, wr, go⟩ := R
      exact ⟨hx, x1, hmx, wr, fun Q X g => run Q X (go _ _ g)⟩
end LKPM
