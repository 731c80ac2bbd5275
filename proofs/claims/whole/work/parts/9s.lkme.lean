/-! a method, both sides at once -/
section LKM2
variable {e : ak_X3} {d dd dm u p : Nat} {b : Nat → Int} {n m lv o Mt : Nat} {D : Nat → Nat} {z z0 z' z1 z2 za zb : Nat → Nat} {hc hm hc0 hm0 hc' hm' hc1 hm1 hc2 hm2 hcx hmx : ak_S} {ρ : List Nat}
def ak_MQ (e : ak_X3) (ρ : List Nat) (dm u p : Nat) (b : Nat → Int) (n m Mt : Nat) (z : Nat → Nat) (hc hm hc' : ak_S) : Prop :=
  ∃ (z' : Nat → Nat) (hm' : ak_S), ak_PM u p b n m (Mt + 1) z' hc' hm' ∧ z 0 < z' 0 ∧ ak_POT b n 0 0 z' ∧ ak_PRG u p (Mt + 1) z' hc' hm' ∧ ak_fm u p hc hm hc' hm' ∧ Mt < 40 ∧ ak_goV e dm ρ 236 [am_r 110] hm hm'
def ak_MX (e : ak_X3) (ρ : List Nat) (dm u p : Nat) (hc hm : ak_S) (ex : Nat) (hc' : ak_S) : Prop := ex = 0 ∧ ∃ hm' : ak_S, ak_WR u p hc hm hc' hm' ∧ ak_goV e dm ρ 236 [am_r 110] hm hm'
theorem lk_mtail {ρ0 ρ3 ρ4 : Nat} {kp : Int} (hu : u = 0 ∨ u = 1) (w : ak_PI u p b n m 0 D 0 (Mt + 1) z hc hm) (hM : Mt < 40) (pt : ak_POT b n 0 0 z) (h0 : z0 0 < z 0) (hm38 : hm0.1 110 38 = 0) (fm : ak_fm u p hc0 hm0 hc hm) (G : ak_PRG u p Mt z hc hm) (t13 : hc.1 (ak_T u + 13) Mt = (z 1 : Int)) (t12 : hc.1 (ak_T u + 12) Mt = kp) (t126 : hm.1 126 (40 * p + Mt) = kp) (hk : 0 ≤ kp ∧ kp ≤ 4)
    (run : ∀ (Q : ak_S → Prop) (X : Nat → ak_S → Prop), ak_MI e 1 (d + 439) ρ 232 [am_r 110] hm (fun v h => Q (am_up h.1 125 (40 * p + Mt) v, h.2)) (fun _ _ => False) → ak_MV e 1 (d + 440) ρ 236 [am_r 110] hm0 Q X) :
    ak_MV e 0 (d + 439) [ρ0, ak_T u, ak_T u + 1, ρ3, ρ4] 20 [am_r 2, am_i 0] hc (fun h7 => ak_MI e 0 (d + 439) [ρ0, ak_T u, ak_T u + 1, ρ3, ρ4] 3 [am_r (ak_T u + 1), am_i 34, am_i 0] h7 (fun _ h8 => ak_MQ e ρ (d + 440) u p b n m Mt z0 hc0 hm0 h8) (fun _ _ => False)) (ak_MX e ρ (d + 440) u p hc0 hm0) := by
  have hT := ak_T_in hu
  have hp2 := w.2.1.1.2.1
  have n6 := (ak_st_n w).2.1
  have hst := (ak_st_n w).1
  have z560 := (ak_st_n w).2.2.2
  have w38 : hm.1 110 38 = 0 := w.2.2.2.1.1
  have pt' := pt
  unfold ak_POT at pt'
  refine ak_MV_imp (ak_MV_deep (Nat.le_succ _) (lk_body (o := 0) (dd := d + 437) (ρ := ρ) (by omega) hu (fun t' _ => (lk_all (e := e) (ρ := ρ) (ρ0 := ρ0) (ρ3 := ρ3) (ρ4 := ρ4) (u := u) (p := p) (b := b) (n := n) (m := m) hu t').2) w (by omega) (by omega) (show m ≤ z 0 + m by omega))) (fun hc7 R => ?_) (fun ex hcx R => ?_)
  · obtain ⟨D7, z7, x7, hm7, ⟨I7, l7, r7, e7, d7, T7⟩, go7⟩ := R
    have le7 := ak_ext_le e7
    have hst7 := (ak_st_n I7).1
    have z57 := (ak_st_n I7).2.2.2
    have IP := ak_PI_put hu I7 (r := 34) (x := 0)
    have eP := ak_ext_put (p := p) (z := z7) (hc := hc7) (hm := hm7) (r := 34) (x := 0) hu
    have IF := ak_PI_tab0 hu IP (r := 125) (hc' := ak_put hc7 u (z7 1) 34 0) (hm' := (am_up hm7.1 125 (40 * p + Mt) x7, hm7.2)) (Or.inl rfl) (fun _ _ _ => rfl) (fun _ _ => rfl) (fun q j h => ak_up_out (fun g => h g.1))
    have e7P := ak_ext_trans e7 eP
    have G7 := ak_PRG_ext G e7P
    have fm7 : ak_fm u p hc0 hm0 (ak_put hc7 u (z7 1) 34 0) (am_up hm7.1 125 (40 * p + Mt) x7, hm7.2) := by
      obtain ⟨f1, f2, f3, f4⟩ := ak_fm_trans fm (ak_fm_ext e7P)
      exact ⟨f1, ak_pM_upI f2 (Or.inr (Or.inr (Or.inr (Or.inl ⟨by decide, by decide, by omega, by omega⟩)))), f3, f4⟩
    have a7 := e7P.2.2.2.2.2.2.1 Mt
    have a125 := e7P.2.2.2.2.2.2.2.1
    refine am_s3 hu I7.2.2.2.2.2.2.2.2.1 (show z7 1 < 9600 by omega) ⟨ak_zu z7 1 (z7 1 + 1), _, ak_PI_PM IF, show z0 0 < z7 0 by omega, ?_, fun x hx => ?_, fm7, hM, fun Q X g => run Q X (go7 _ _ g)⟩
    · unfold ak_POT
      show 2 * (z7 1 + 1) ≤ 3 * ak_st b n (z7 0) + z7 5 + 10 * 0 + 3 * 0 ∧ z7 2 ≤ ak_st b n (z7 0) + 2 * 0 + 0 ∧ 13 * z7 3 ≤ ak_st b n (z7 0) + 13 * 0 ∧ 6 * z7 4 ≤ ak_st b n (z7 0)
      omega
    · rcases Nat.lt_or_ge x Mt with q | q
      · obtain ⟨ya, yb, v1, v2, v3, v4, v5, v6⟩ := G7 x q
        refine ⟨ya, yb, v1, v2, v3, (ak_up_out1 (by omega)).trans v4, v5, ?_⟩
        rw [ak_up_out1 (by omega)]
        exact ak_sub_fr v6 (fun _ _ _ _ _ => rfl) (fun q k h => ak_up_out (by omega)) (fun _ _ _ => rfl) ⟨Nat.le_refl _, Nat.le_refl _, Nat.le_refl _⟩
      · have ex : x = Mt := by omega
        subst ex
        refine ⟨z, z7, a7.2.trans t13, Nat.lt_succ_self _, ak_put_2, ?_, ?_, ?_⟩
        · exact ((ak_up_out1 (by omega)).trans ((a125 126 _ (by decide) (by decide)).trans t126)).trans (a7.1.trans t12).symm
        · rw [a7.1, t12]; exact hk
        · rw [ak_up_at1]
          exact ak_sub_fr (hc := ak_put hc7 u (z7 1) 34 0) (hm := hm7) (ak_sub_ext ⟨hc7, hm7, ak_mid_refl, T7⟩ eP) (fun _ _ _ _ _ => rfl) (fun q k h => ak_up_out (by omega)) (fun _ _ _ => rfl) ⟨Nat.le_refl _, Nat.le_refl _, Nat.le_refl _⟩
  · obtain ⟨hx, x7, hm7, wr, go7⟩ := R
    exact ⟨hx, _, ak_WR_M (ak_WR_fm fm hm38 (by rw [w38]; exact Int.le_refl _) wr) (Or.inl ⟨Or.inl rfl, by omega, by omega⟩), fun Q X g => run Q X (go7 _ _ g)⟩
theorem lk_method {ρ0 ρ3 ρ4 : Nat} (hu : u = 0 ∨ u = 1) (w : ak_PM u p b n m Mt z hc hm) (pt : ak_POT b n 0 0 z) (G : ak_PRG u p Mt z hc hm) :
    ak_MV e 0 (d + 440) [ρ0, ak_T u, ak_T u + 1, ρ3, ρ4] 14 [am_r 2] hc (ak_MQ e ρ (d + 440) u p b n m Mt z hc hm) (ak_MX e ρ (d + 440) u p hc hm) := by
  have hT := ak_T_in hu
  have hp := w.2.1.1.1
  have hp2 := w.2.1.1.2.1
  have n6 := w.2.1.1.2.2.2.1
  have hst := ak_st_le w.1 w.1.1.1
  have hf := w.2.2.1
  have h38 := w.2.2.2.1
  have hkC := w.1.2.2.2.2.1
  have tk := w.2.1.2.2.1
  have mm := w.2.2.2.2.2.2.1
  have z560 := w.2.2.2.2.2.2.2.2.2.2.2.2.2
  have m4 := mm.2.1
  have m40 := mm.1
  have m122 := mm.2.2.1
  have pt' := pt
  unfold ak_POT at pt'
  have b1 : 0 ≤ (p : Int) ∧ (p : Int) < 2 := by omega
  have W := ak_WR_PM w (by omega)
  have bad1 : ¬ (ak_kd b n (ak_st b n (z 0)) = 200 ∧ Mt < 40) → ak_W0 e 0 (d + 439) 14 [ρ0, ak_T u, ak_T u + 1, ρ3, ρ4] 30 [some (am_r 2)] [am_i 0] hc (ak_qv (ak_MQ e ρ (d + 440) u p b n m Mt z hc hm) (ak_MX e ρ (d + 440) u p hc hm)) := by
    intro no
    refine am_k14_30 hu (am_s10 hu (fun q => absurd rfl q) (fun _ => ⟨rfl, ak_wr hm, W, fun Q X g => ?_⟩))
    have tail : ak_MV e 1 (d + 439) ρ 207 [am_r 110, am_i (hm.1 110 34)] hm (fun h6 =>
          ak_MI e 1 (d + 439) ρ 206 [am_r 110] h6 (fun v8 h7 =>
            (v8 = 0 →
              ak_MV e 1 (d + 439) ρ 205 [am_r 110] h7 (fun h9 =>
                ak_W0 e 1 (d + 439) 236 ρ 55 [some (am_r 110), some (am_i ((-1))), some (am_i 0)] [] h9 (ak_qv Q X)) (fun _ _ => False))
            ∧ (v8 ≠ 0 →
              Q h7)) (fun _ _ => False)) (fun _ _ => False) :=
      am_s207 (fun _ => am_w206 W.1 ⟨fun q => absurd q (by decide), fun _ => g⟩) (fun q => absurd q (Int.not_le.mpr hf))
    refine ak_MV_of (Nat.le_of_ble_eq_true rfl) (am_k236_0 (am_s206 (fun _ => ⟨fun q => absurd rfl q, fun _ => ⟨fun _ => tail, fun q200 => ?_⟩⟩) (fun q => absurd q (Int.not_le.mpr hf))))
    rw [hp, ak_natn, m122]
    exact ⟨b1, fun q => absurd ⟨tk.symm.trans q200, by omega⟩ no, fun _ => tail⟩
  refine ak_MV_of (Nat.le_of_ble_eq_true rfl) (am_k14_0 hu ?_)
  rw [hkC, m4]
  refine ⟨fun n200 => bad1 (fun q => n200 q.1), fun k200 => ⟨fun q40 => bad1 (fun q => absurd q40 (by omega)), fun q40 => ?_⟩⟩
  have hM : Mt < 40 := by omega
  have ham : z 0 < m := ak_cc_lt w.1 (by omega)
  obtain ⟨hm1, ⟨M1, frm1⟩, rd1⟩ := ak_MV_get (e := e) (r := 1) (d := d + 439) (ρ := ρ) (am_rd (d := d + 436) (X := ak_F) w.2.1 hst (fun h' c f => (⟨c, f⟩ : ak_cm b n p h' (z 0 + 1) ∧ ak_rfr hm h')))
  refine am_k14_30 hu (am_s10 hu (fun _ => am_adv w.1 ham (fun hc1 C1 fr1 => ?_)) (fun q => absurd q (by decide)))
  have w1 := ak_PM_step hu w C1 fr1 M1 frm1
  have su1 := ak_st_up w.1 ham
  have hst1 : ak_st b n (z 0 + 1) ≤ n := ak_st_le C1 C1.1.1
  have hf1 := w1.2.2.1
  have mm1 := w1.2.2.2.2.2.2.1
  have hkC1 : hc1.1 3 8 = ak_kd b n (ak_st b n (z 0 + 1)) := C1.2.2.2.2.1
  have tk1 : hm1.1 110 33 = ak_kd b n (ak_st b n (z 0 + 1)) := M1.2.2.1
  have e1 := ak_ext_step (p := p) (z := z) hu fr1 frm1
  have fm1 := ak_fm_ext e1
  have G1 := ak_PRG_ext G e1
  have h381 : hm1.1 110 38 = 0 := w1.2.2.2.1
  have run1 : ∀ (Q : ak_S → Prop) (X : Nat → ak_S → Prop), ak_W0 e 1 (d + 439) 236 ρ 55 [some (am_r 110), some (am_i (-1)), some (am_i 0)] [] hm1 (ak_qv Q X) → ak_MV e 1 (d + 440) ρ 236 [am_r 110] hm Q X := by
    intro Q X g
    refine ak_MV_of (Nat.le_of_ble_eq_true rfl) (am_k236_0 (am_s206 (fun _ => ⟨fun q => absurd rfl q, fun _ => ⟨fun q => absurd (tk.trans k200) q, fun _ => ?_⟩⟩) (fun q => absurd q (Int.not_le.mpr hf))))
    rw [hp, ak_natn, m122]
    exact ⟨b1, fun _ => am_s206 (fun _ => ⟨fun _ => rd1 _ _ g, fun q => absurd rfl q⟩) (fun q => absurd q (Int.not_le.mpr hf)), fun q => absurd q (by omega)⟩
  have W1 := ak_WR_PM w1 (show z 2 ≤ 6130 by omega)
  have W1' : ak_WR u p hc hm (ak_th hc1) (ak_wr hm1) := ak_WR_fm fm1 h38 (by rw [h381]; exact Int.le_refl _) W1
  have bad2 : ¬ (ak_kd b n (ak_st b n (z 0 + 1)) = 2 ∧ ak_find (hc1.2.1 (ak_T u + 11)) (ak_pk b (ak_st b n (z 0 + 1)) (ak_nx b n (ak_st b n (z 0 + 1)) - ak_st b n (z 0 + 1))) Mt 0 < 0) → ak_W0 e 0 (d + 439) 14 [ρ0, ak_T u, ak_T u + 1, ρ3, ρ4] 73 [some (am_r 2)] [am_i 0] hc1 (ak_qv (ak_MQ e ρ (d + 440) u p b n m Mt z hc hm) (ak_MX e ρ (d + 440) u p hc hm)) :=
    fun no => am_k14_73 hu (am_s10 hu (fun q => absurd rfl q) (fun _ => ⟨rfl, ak_wr hm1, W1', fun Q X g => run1 Q X (am_q236 (d := d + 436) M1 hf1 mm1 (fun a c => absurd ⟨a, c⟩ no) (fun _ => am_k236_151 (am_w206 W1.1 ⟨fun q => absurd q (by decide), fun _ => g⟩)))⟩))
  refine ⟨fun n2 => bad2 (fun q => n2 (hkC1.trans q.1)), fun k2 => ?_⟩
  have k2' : ak_kd b n (ak_st b n (z 0 + 1)) = 2 := hkC1.symm.trans k2
  obtain ⟨hin, hl, wd, hv⟩ := ak_kd_word k2'
  have v10 : hc1.2.1 3 10 = ak_pk b (ak_st b n (z 0 + 1)) (ak_nx b n (ak_st b n (z 0 + 1)) - ak_st b n (z 0 + 1)) := by
    rw [C1.2.2.2.2.2.2]
    exact hv _ (C1.2.1 _ C1.1.1).2.2
  rw [v10]
  refine am_s135 hu mm1.2.1 mm1.1 ⟨fun q => bad2 (fun g => absurd q (Int.not_le.mpr g.2)), fun hneg => am_k14_73 hu (am_s10 hu (fun _ => ?_) (fun q => absurd q (by decide)))⟩
  -- the tables
  have hS1 : hc1.1 (ak_T u + 1) 2 = (z 1 : Int) := w1.2.2.2.2.2.2.2.1
  rw [mm1.2.1, ak_natn, hS1, ak_wj (show Mt < 1000000 by omega), v10]
  refine ⟨by omega, by omega, by decide, ?_⟩
  have ham1 : z 0 + 1 < m := ak_cc_lt C1 (by omega)
  have CN : ak_cc b n m (am_up (am_up (am_up (am_up (am_up hc1.1 2 6 (Mt : Int)) (ak_T u + 13) Mt (z 1 : Int)) (ak_T u) 4 ((Mt + 1 : Nat) : Int)) 2 5 0) 31 0 0, am_up hc1.2.1 (ak_T u + 11) Mt (ak_pk b (ak_st b n (z 0 + 1)) (ak_nx b n (ak_st b n (z 0 + 1)) - ak_st b n (z 0 + 1))), hc1.2.2) (z 0 + 1) := by
    have f : ∀ q k, q ≠ 2 → q ≠ 31 → q ≠ ak_T u → q ≠ ak_T u + 13 → am_up (am_up (am_up (am_up (am_up hc1.1 2 6 (Mt : Int)) (ak_T u + 13) Mt (z 1 : Int)) (ak_T u) 4 ((Mt + 1 : Nat) : Int)) 2 5 0) 31 0 0 q k = hc1.1 q k := fun q k h1 h2 h3 h4 => by
      rw [ak_up_out (by omega), ak_up_out (by omega), ak_up_out (by omega), ak_up_out (by omega), ak_up_out (by omega)]
    have fj : ∀ q k, q ≠ ak_T u + 11 → am_up hc1.2.1 (ak_T u + 11) Mt (ak_pk b (ak_st b n (z 0 + 1)) (ak_nx b n (ak_st b n (z 0 + 1)) - ak_st b n (z 0 + 1))) q k = hc1.2.1 q k := fun q k h => ak_up_out (fun g => h g.1)
    exact ak_cc_fr C1 (fun k => f 3 k (by omega) (by omega) (by omega) (by omega)) (fun k => f 6 k (by omega) (by omega) (by omega) (by omega)) (fun k => f 7 k (by omega) (by omega) (by omega) (by omega)) (fj 3 10 (by omega)) (fun k => fj 8 k (by omega))
  have MN : ak_cm b n p (am_up (am_up (am_up hm1.1 123 (40 * p + Mt) (hm1.1 110 34)) 124 (40 * p + Mt) (hm1.1 110 35)) 122 p ((Mt + 1 : Nat) : Int), hm1.2) (z 0 + 1) := by
    have f : ∀ q k, ¬ (122 ≤ q ∧ q ≤ 124) → am_up (am_up (am_up hm1.1 123 (40 * p + Mt) (hm1.1 110 34)) 124 (40 * p + Mt) (hm1.1 110 35)) 122 p ((Mt + 1 : Nat) : Int) q k = hm1.1 q k := fun q k h => by
      rw [ak_up_out (by omega), ak_up_out (by omega), ak_up_out (by omega)]
    exact ak_cm_fr M1 (fun k _ _ => f 110 k (by decide)) (fun k => f 112 k (by decide)) (fun k => f 113 k (by decide)) (fun k => f 137 k (by decide))
  refine am_adv CN ham1 (fun hc3 C3 fr3 => ?_)
  obtain ⟨hm3, ⟨M3, frm3⟩, rd3⟩ := ak_MV_get (e := e) (r := 1) (d := d + 439) (ρ := ρ) (am_rd (d := d + 436) (X := ak_F) MN hst1 (fun h' c f => (⟨c, f⟩ : ak_cm b n p h' (z 0 + 1 + 1) ∧ ak_rfr (am_up (am_up (am_up hm1.1 123 (40 * p + Mt) (hm1.1 110 34)) 124 (40 * p + Mt) (hm1.1 110 35)) 122 p ((Mt + 1 : Nat) : Int), hm1.2) h')))
  have su3 : ak_st b n (z 0 + 1) + 1 ≤ ak_st b n (z 0 + 1 + 1) := ak_st_up w1.1 ham1
  have hst3 : ak_st b n (z 0 + 1 + 1) ≤ n := ak_st_le C3 C3.1.1
  have fC3 : ∀ q k, q ≠ 2 → q ≠ 3 → q ≠ 31 → ¬ (q = ak_T u ∧ k = 4) → ¬ (q = ak_T u + 13 ∧ k = Mt) → hc3.1 q k = hc1.1 q k := by
    intro q k h1 h2 h3 h4 h5
    rw [fr3.1 q k (fun g => h2 g.1)]
    show am_up (am_up (am_up (am_up (am_up hc1.1 2 6 (Mt : Int)) (ak_T u + 13) Mt (z 1 : Int)) (ak_T u) 4 ((Mt + 1 : Nat) : Int)) 2 5 0) 31 0 0 q k = _
    rw [ak_up_out (by omega), ak_up_out (by omega), ak_up_out (by omega), ak_up_out (by omega), ak_up_out (by omega)]
  have fJ3 : ∀ q k, q ≠ 3 → ¬ (q = ak_T u + 11 ∧ k = Mt) → hc3.2.1 q k = hc1.2.1 q k := by
    intro q k h1 h2
    rw [fr3.2.1 q k (fun g => h1 g.1)]
    exact ak_up_out (by omega)
  have fM3 : ∀ q k, ¬ (q = 110 ∧ ((32 ≤ k ∧ k ≤ 36) ∨ k = 42)) → ¬ (q = 138 ∧ k = 0) → ¬ (q = 122 ∧ k = p) → ¬ (123 ≤ q ∧ q ≤ 124 ∧ k = 40 * p + Mt) → am_up (am_up hm3.1 110 42 1) 138 0 0 q k = hm1.1 q k := by
    intro q k h1 h2 h3 h4
    rw [ak_up_out (by omega), ak_up_out (by omega), frm3.1 q k (by omega)]
    show am_up (am_up (am_up hm1.1 123 (40 * p + Mt) (hm1.1 110 34)) 124 (40 * p + Mt) (hm1.1 110 35)) 122 p ((Mt + 1 : Nat) : Int) q k = _
    rw [ak_up_out (by omega), ak_up_out (by omega), ak_up_out (by omega)]
  have t4 : hc3.1 (ak_T u) 4 = ((Mt + 1 : Nat) : Int) := by
    rw [fr3.1 _ _ (by omega)]
    show am_up (am_up (am_up (am_up (am_up hc1.1 2 6 (Mt : Int)) (ak_T u + 13) Mt (z 1 : Int)) (ak_T u) 4 ((Mt + 1 : Nat) : Int)) 2 5 0) 31 0 0 (ak_T u) 4 = _
    rw [ak_up_out (by omega), ak_up_out (by omega), ak_up_at]
  have t13 : hc3.1 (ak_T u + 13) Mt = (z 1 : Int) := by
    rw [fr3.1 _ _ (by omega)]
    show am_up (am_up (am_up (am_up (am_up hc1.1 2 6 (Mt : Int)) (ak_T u + 13) Mt (z 1 : Int)) (ak_T u) 4 ((Mt + 1 : Nat) : Int)) 2 5 0) 31 0 0 (ak_T u + 13) Mt = _
    rw [ak_up_out (by omega), ak_up_out (by omega), ak_up_out (by omega), ak_up_at]
  have t26 : hc3.1 2 6 = (Mt : Int) := by
    rw [fr3.1 _ _ (by omega)]
    show am_up (am_up (am_up (am_up (am_up hc1.1 2 6 (Mt : Int)) (ak_T u + 13) Mt (z 1 : Int)) (ak_T u) 4 ((Mt + 1 : Nat) : Int)) 2 5 0) 31 0 0 2 6 = _
    rw [ak_up_out (by omega), ak_up_out (by omega), ak_up_out (by omega), ak_up_out (by omega), ak_up_at]
  have t25 : hc3.1 2 5 = 0 := by
    rw [fr3.1 _ _ (by omega)]
    show am_up (am_up (am_up (am_up (am_up hc1.1 2 6 (Mt : Int)) (ak_T u + 13) Mt (z 1 : Int)) (ak_T u) 4 ((Mt + 1 : Nat) : Int)) 2 5 0) 31 0 0 2 5 = _
    rw [ak_up_out (by omega), ak_up_at]
  have t31 : hc3.1 31 0 = 0 := by
    rw [fr3.1 _ _ (by omega)]
    exact ak_up_at1
  have t11 : hc3.2.1 (ak_T u + 11) Mt = ak_pk b (ak_st b n (z 0 + 1)) (ak_nx b n (ak_st b n (z 0 + 1)) - ak_st b n (z 0 + 1)) := by
    rw [fr3.2.1 _ _ (by omega)]
    exact ak_up_at
  have m123 : (am_up (am_up hm3.1 110 42 1) 138 0 0) 123 (40 * p + Mt) = ((ak_st b n (z 0 + 1) : Nat) : Int) := by
    rw [ak_up_out (by omega), ak_up_out (by omega), frm3.1 _ _ (by omega)]
    show am_up (am_up (am_up hm1.1 123 (40 * p + Mt) (hm1.1 110 34)) 124 (40 * p + Mt) (hm1.1 110 35)) 122 p ((Mt + 1 : Nat) : Int) 123 (40 * p + Mt) = _
    rw [ak_up_out (by omega), ak_up_out (by omega), ak_up_at]
    exact M1.2.2.2.1
  have m124 : (am_up (am_up hm3.1 110 42 1) 138 0 0) 124 (40 * p + Mt) = ((ak_nx b n (ak_st b n (z 0 + 1)) - ak_st b n (z 0 + 1) : Nat) : Int) := by
    rw [ak_up_out (by omega), ak_up_out (by omega), frm3.1 _ _ (by omega)]
    show am_up (am_up (am_up hm1.1 123 (40 * p + Mt) (hm1.1 110 34)) 124 (40 * p + Mt) (hm1.1 110 35)) 122 p ((Mt + 1 : Nat) : Int) 124 (40 * p + Mt) = _
    rw [ak_up_out (by omega), ak_up_at]
    exact M1.2.2.2.2.1
  have m122' : (am_up (am_up hm3.1 110 42 1) 138 0 0) 122 p = ((Mt + 1 : Nat) : Int) := by
    rw [ak_up_out (by omega), ak_up_out (by omega), frm3.1 _ _ (by omega)]
    exact ak_up_at1
  have fMM : ∀ q k, ¬ (q = 110 ∧ k = 42) → q ≠ 138 → am_up (am_up hm3.1 110 42 1) 138 0 0 q k = hm3.1 q k := fun q k h1 h2 => (ak_up_out (fun g => h2 g.1)).trans (ak_up_out h1)
  have I3 : ak_PI u p b n m 0 (fun _ => 0) 0 (Mt + 1) (ak_zu z 0 (z 0 + 1 + 1)) hc3 (am_up (am_up hm3.1 110 42 1) 138 0 0, hm3.2) := by
    obtain ⟨x1, x2, x3, x4, x6, x7, x8, x9, x10, x11, x12, x13, x14, x15⟩ := w1
    refine ⟨C3, ak_cm_fr M3 (fun k h1 h2 => fMM 110 k (by omega) (by decide)) (fun k => fMM 112 k (by omega) (by decide)) (fun k => fMM 113 k (by omega) (by decide)) (fun k => fMM 137 k (by omega) (by decide)), ?_, ⟨?_, by decide⟩, ⟨t25, by decide, ?_, fun s hs => ?_⟩, ak_nms_fr x6 (fC3 _ _ (by omega) (by omega) (by omega) (by omega) (by omega)) (fun k => fJ3 _ _ (by omega) (by omega)) (fM3 131 p (by omega) (by omega) (by omega) (by omega)) (fun k => fM3 132 k (by omega) (by omega) (by omega) (by omega)) (fun k => fM3 133 k (by omega) (by omega) (by omega) (by omega)),
      ak_sts_fr x7 (Nat.le_refl _) (fC3 _ _ (by omega) (by omega) (by omega) (by omega) (by omega)) (fun q k h1 h2 => fC3 _ _ (by omega) (by omega) (by omega) (by omega) (by omega)) (fun q k h1 h2 => fM3 q k (by omega) (by omega) (by omega) (by omega)), ⟨by omega, t4, m122', fun x hx => ?_⟩, ?_, ?_, ?_, ?_, ?_, ?_, x15, t26, Nat.le_refl _⟩
    · show am_up (am_up hm3.1 110 42 1) 138 0 0 110 37 < 0
      rw [fM3 _ _ (by omega) (by omega) (by omega) (by omega)]; exact x3
    · show am_up (am_up hm3.1 110 42 1) 138 0 0 110 38 = 0
      rw [fM3 _ _ (by omega) (by omega) (by omega) (by omega)]; exact x4
    · show am_up (am_up hm3.1 110 42 1) 138 0 0 110 42 = 1
      rw [ak_up_out (by omega), ak_up_at]
    · have hs0 : s = 0 := by omega
      subst hs0
      exact ⟨Nat.zero_le _, t31, ak_up_at1, fun k hk => absurd hk (Nat.not_lt_zero _)⟩
    · rcases Nat.lt_or_ge x Mt with q | q
      · obtain ⟨i, y, g1, g2, g3, g4⟩ := x8.2.2.2 x q
        exact ⟨i, y, g1, (fM3 _ _ (by omega) (by omega) (by omega) (by omega)).trans g2, (fM3 _ _ (by omega) (by omega) (by omega) (by omega)).trans g3, (fJ3 _ _ (by omega) (by omega)).trans g4⟩
      · have : x = Mt := by omega
        subst this
        exact ⟨_, _, wd, m123, m124, t11⟩
    · rw [fC3 _ _ (by omega) (by omega) (by omega) (by omega) (by omega)]; exact x9
    · show am_up (am_up hm3.1 110 42 1) 138 0 0 121 p = _
      rw [fM3 _ _ (by omega) (by omega) (by omega) (by omega)]; exact x10
    · rw [fC3 _ _ (by omega) (by omega) (by omega) (by omega) (by omega)]; exact x11
    · rw [fC3 _ _ (by omega) (by omega) (by omega) (by omega) (by omega)]; exact x12
    · rw [fC3 _ _ (by omega) (by omega) (by omega) (by omega) (by omega)]; exact x13
    · show am_up (am_up hm3.1 110 42 1) 138 0 0 134 p = _
      rw [fM3 _ _ (by omega) (by omega) (by omega) (by omega)]; exact x14
  have fm3 : ak_fm u p hc hm hc3 (am_up (am_up hm3.1 110 42 1) 138 0 0, hm3.2) := by
    refine ak_fm_trans fm1 ⟨⟨fun q k h => ?_, fun q k h => ?_⟩, ⟨fun q k h => ?_, ?_⟩, ?_, ?_⟩
    · by_cases h3 : q = 3
      · subst h3
        rw [fr3.1 _ _ (fun g => h (Or.inr (Or.inr (Or.inl ⟨rfl, g.2⟩))))]
        show am_up (am_up (am_up (am_up (am_up hc1.1 2 6 (Mt : Int)) (ak_T u + 13) Mt (z 1 : Int)) (ak_T u) 4 ((Mt + 1 : Nat) : Int)) 2 5 0) 31 0 0 3 k = _
        rw [ak_up_out (by omega), ak_up_out (by omega), ak_up_out (by omega), ak_up_out (by omega), ak_up_out (by omega)]
      · exact fC3 q k (fun g => h (Or.inl g)) h3 (fun g => h (Or.inr (Or.inl g))) (fun g => h (Or.inr (Or.inr (Or.inr (by omega))))) (fun g => h (Or.inr (Or.inr (Or.inr (by omega)))))
    · by_cases h3 : q = 3
      · subst h3
        rw [fr3.2.1 _ _ (fun g => h (Or.inr (Or.inl ⟨rfl, g.2⟩)))]
        show am_up hc1.2.1 (ak_T u + 11) Mt (ak_pk b (ak_st b n (z 0 + 1)) (ak_nx b n (ak_st b n (z 0 + 1)) - ak_st b n (z 0 + 1))) 3 k = hc1.2.1 3 k
        exact ak_up_out (by omega)
      · exact fJ3 q k h3 (fun g => h (Or.inr (Or.inr (by omega))))
    · exact fM3 q k (fun g => h (Or.inl ⟨g.1, by omega⟩)) (fun g => h (Or.inr (Or.inr (Or.inr (Or.inr (Or.inr (Or.inr (Or.inr (Or.inl g.1)))))))))
        (fun g => h (Or.inr (Or.inr (Or.inl ⟨by omega, g.2⟩)))) (fun g => h (Or.inr (Or.inr (Or.inr (Or.inl (by omega))))))
    · show hm3.2.1 = hm1.2.1
      exact congrArg (fun y => y.1) frm3.2
    · exact fr3.2.2
    · show hm3.2.2 = hm1.2.2
      exact congrArg (fun y => y.2) frm3.2
  have G3 : ak_PRG u p Mt (ak_zu z 0 (z 0 + 1 + 1)) hc3 (am_up (am_up hm3.1 110 42 1) 138 0 0, hm3.2) := by
    refine ak_PRG_fr G1 (fun q k h1 h2 h3 => fC3 _ _ (by omega) (by omega) (by omega) (by omega) (by omega)) (fun q k h => fM3 _ _ (by omega) (by omega) (by omega) (by omega)) (fun i h1 h2 => ?_) ⟨Nat.le_succ _, Nat.le_refl _, Nat.le_refl _⟩ (fun q k h1 h2 h3 => fC3 _ _ (by omega) (by omega) (by omega) (by omega) (by omega)) (fun q k h1 h2 h3 => fM3 _ _ (by omega) (by omega) (by omega) (by omega))
    rw [ak_zu_ne (by omega), ak_zu_ne (by omega)]
  have run3 : ∀ (Q : ak_S → Prop) (X : Nat → ak_S → Prop), ak_MV e 1 (d + 439) ρ 210 [am_r 110, am_i 40] (am_up (am_up hm3.1 110 42 1) 138 0 0, hm3.2) (fun h4 => ak_MI e 1 (d + 439) ρ 208 [am_r 110, am_i 41] h4 (fun v6 h5 =>
      (v6 = 0 → ak_MI e 1 (d + 439) ρ 230 [am_r 110] h5 (fun v8 h7 => ak_MV e 1 (d + 439) ρ 211 [am_r 110, am_i 41] (am_up h7.1 126 (40 * p + Mt) v8, h7.2) (fun h9 => ak_MI e 1 (d + 439) ρ 232 [am_r 110] h9 (fun v11 h10 => Q (am_up h10.1 125 (40 * p + Mt) v11, h10.2)) (fun _ _ => False)) (fun _ _ => False)) (fun _ _ => False))
      ∧ (v6 ≠ 0 → ak_MV e 1 (d + 439) ρ 211 [am_r 110, am_i 41] (am_up h5.1 126 (40 * p + Mt) 0, h5.2) (fun h12 => ak_MI e 1 (d + 439) ρ 232 [am_r 110] h12 (fun v14 h13 => Q (am_up h13.1 125 (40 * p + Mt) v14, h13.2)) (fun _ _ => False)) (fun _ _ => False))) (fun _ _ => False)) (fun _ _ => False) → ak_MV e 1 (d + 440) ρ 236 [am_r 110] hm Q X := by
    intro Q X g
    exact run1 Q X (am_q236 (d := d + 436) M1 hf1 mm1 (fun _ _ => am_p236 (d := d + 438) hf1 M1.1.1 hp2 mm1.2.2.1 hM (rd3 _ _ g)) (fun no => absurd ⟨k2', hneg⟩ no))
  -- what a fault behind the bracket leads to
  have wend : ∀ (hcx hmx : ak_S), ak_WR u p hc hm hcx hmx → (∀ (Q : ak_S → Prop) (X : Nat → ak_S → Prop), ak_MI e 1 (d + 439) ρ 232 [am_r 110] hmx (fun v11 h10 => Q (am_up h10.1 125 (40 * p + Mt) v11, h10.2)) (fun _ _ => False) → ak_MV e 1 (d + 440) ρ 236 [am_r 110] hm Q X) → ak_MX e ρ (d + 440) u p hc hm 0 hcx := by
    intro hcx hmx wr run
    obtain ⟨x', hm', ⟨ex', wf⟩, cl⟩ := ak_MI_get (e := e) (r := 1) (d := d + 433 + 6) (ρ := ρ) (am_w232 (X := ak_F) (d := d + 433) (Q := fun v h' => v = -1 ∧ ak_wf hmx h') wr.1 (fun h' wf => ⟨rfl, wf⟩))
    exact ⟨rfl, _, ak_WR_M (ak_WR_wf wr wf) (Or.inl ⟨Or.inl rfl, by omega, by omega⟩), fun Q X g => run Q X (cl _ _ g)⟩
  have w38 : ∀ {hcy hmy : ak_S} {lvy oy : Nat} {Dy zy : Nat → Nat}, ak_PI u p b n m lvy Dy oy (Mt + 1) zy hcy hmy → 0 ≤ hmy.1 110 38 := by
    intro hcy hmy lvy oy Dy zy I
    rw [I.2.2.2.1.1]
    omega
  refine lk_open2 (o := 0) (dm := d + 435) (ρ := ρ) hu (by decide) I3 (show z 2 ≤ 6130 by omega) (fun hc4 hm4 hk4 _ I4 e4 su4 op4 => ?_) (fun wr op4 => ?_)
  · have su4' : ak_st b n (z 0 + 1 + 1) + 1 ≤ ak_st b n (z 0 + 1 + 1 + 1) := su4
    have hkC4 : hc4.1 3 8 = ak_kd b n (ak_st b n (z 0 + 1 + 1 + 1)) := I4.1.2.2.2.2.1
    have tk4 : hm4.1 110 33 = ak_kd b n (ak_st b n (z 0 + 1 + 1 + 1)) := I4.2.1.2.2.1
    have hf4 := I4.2.2.1
    have h26 : hc4.1 2 6 = (Mt : Int) := I4.2.2.2.2.2.2.2.2.2.2.2.2.2.2.2.1
    have hst4 : ak_st b n (z 0 + 1 + 1 + 1) ≤ n := (ak_st_n I4).1
    have fm4 := ak_fm_trans fm3 (ak_fm_ext e4)
    have G4 := ak_PRG_ext G3 e4
    have a4 := e4.2.2.2.2.2.2.1 Mt
    rw [hkC4, h26, ak_natn]
    have bM : 0 ≤ (Mt : Int) ∧ (Mt : Int) < 40 := by omega
    refine ⟨fun n41 => ?_, fun k41 => ⟨bM, ?_⟩⟩
    · have pt4 : ak_POT b n (0 + 1) 0 (ak_zu (ak_zu z 0 (z 0 + 1 + 1)) 0 (z 0 + 1 + 1 + 1)) := by
        unfold ak_POT
        show 2 * z 1 ≤ 3 * ak_st b n (z 0 + 1 + 1 + 1) + z 5 + 10 * 1 + 3 * 0 ∧ z 2 ≤ ak_st b n (z 0 + 1 + 1 + 1) + 2 * 1 + 0 ∧ 13 * z 3 ≤ ak_st b n (z 0 + 1 + 1 + 1) + 13 * 1 ∧ 6 * z 4 ≤ ak_st b n (z 0 + 1 + 1 + 1)
        omega
      refine ak_MI_imp (lk_params (d := d + 433) (ρ := ρ) (f := 0) (by decide) hu I4 pt4) (fun v hc5 R => ?_) (fun ex hcx R => ?_)
      · obtain ⟨k, D5, z5, hm5, ev, hk5, I5, l5, ⟨q1, q2, q3, q4, q5⟩, su5, e5, d5, go5⟩ := R
        subst ev
        have q1' : z5 1 = z 1 := q1
        have q2' : z5 2 = z 2 := q2
        have q3' : z5 3 = z 3 := q3
        have q4' : z5 4 = z 4 := q4
        have q5' : z5 5 = z 5 := q5
        have su5' : ak_st b n (z 0 + 1 + 1 + 1) + 1 ≤ ak_st b n (z5 0) := su5
        have l5' : z 0 + 1 + 1 + 1 < z5 0 := l5
        have I5' := ak_PI_tab hu I5 (k := Mt) (v := (k : Int)) (k' := 40 * p + Mt) (v' := (k : Int)) (q := 126) (Or.inr rfl)
        have fm5 : ak_fm u p hc hm (am_up hc5.1 (ak_T u + 12) Mt (k : Int), hc5.2) (am_up hm5.1 126 (40 * p + Mt) (k : Int), hm5.2) := by
          obtain ⟨f1, f2, f3, f4⟩ := ak_fm_trans fm4 (ak_fm_ext e5)
          exact ⟨ak_pC_upI f1 (Or.inr (Or.inr (Or.inr (by omega)))), ak_pM_upI f2 (Or.inr (Or.inr (Or.inr (Or.inl ⟨by decide, by decide, by omega, by omega⟩)))), f3, f4⟩
        have G5 := ak_PRG_fr (ak_PRG_ext G4 e5) (hc' := (am_up hc5.1 (ak_T u + 12) Mt (k : Int), hc5.2)) (hm' := (am_up hm5.1 126 (40 * p + Mt) (k : Int), hm5.2)) (z2 := z5) (fun q k h1 h2 h3 => ak_up_out (by omega)) (fun q k h => ak_up_out (by omega)) (fun _ _ _ => rfl) ⟨Nat.le_refl _, Nat.le_refl _, Nat.le_refl _⟩ (fun q k h1 h2 h3 => ak_up_out (by omega)) (fun q k h1 h2 h3 => ak_up_out (by omega))
        have a5 := e5.2.2.2.2.2.2.1 Mt
        have run5 : ∀ (Q : ak_S → Prop) (X : Nat → ak_S → Prop), ak_MV e 1 (d + 439) ρ 211 [am_r 110, am_i 41] (am_up hm5.1 126 (40 * p + Mt) (k : Int), hm5.2) (fun h9 => ak_MI e 1 (d + 439) ρ 232 [am_r 110] h9 (fun v11 h10 => Q (am_up h10.1 125 (40 * p + Mt) v11, h10.2)) (fun _ _ => False)) (fun _ _ => False) → ak_MV e 1 (d + 440) ρ 236 [am_r 110] hm Q X :=
          fun Q X g => run3 Q X (op4 _ _ (am_s208 (fun _ q => absurd (tk4.symm.trans q) n41) (fun _ => ⟨fun _ => go5 _ _ g, fun q => absurd rfl q⟩)))
        have pt5 : ak_POT b n (0 + 1) 0 z5 := by
          unfold ak_POT
          omega
        refine ⟨bM, am_s11 hu I5'.1 (by decide) (fun k41 hc6 C6 fr6 => ?_) (fun no => ?_)⟩
        · obtain ⟨hm6, I6, e6, cl6, -⟩ := lk_close (e := e) (ρ := ρ) (dm := d + 434) (o := 0) hu I5' (Nat.le_refl _) k41 C6 fr6
          have su6 : ak_st b n (z5 0) + 1 ≤ ak_st b n (z5 0 + 1) := ak_st_up I5.1 (ak_cc_lt I5.1 (by rw [k41]; decide))
          have a6 := e6.2.2.2.2.2.2.1 Mt
          refine lk_mtail (kp := (k : Int)) hu I6 hM ?_ (show z 0 < z5 0 + 1 by omega) h38 (ak_fm_trans fm5 (ak_fm_ext e6)) (ak_PRG_ext G5 e6) ?_ (a6.1.trans ak_up_at1) ((e6.2.2.2.2.2.2.2.1 126 _ (by decide) (by decide)).trans ak_up_at1) (by omega) (fun Q X g => run5 Q X (cl6 _ _ g))
          · unfold ak_POT
            show 2 * z5 1 ≤ 3 * ak_st b n (z5 0 + 1) + z5 5 + 10 * 0 + 3 * 0 ∧ z5 2 ≤ ak_st b n (z5 0 + 1) + 2 * 0 + 0 ∧ 13 * z5 3 ≤ ak_st b n (z5 0 + 1) + 13 * 0 ∧ 6 * z5 4 ≤ ak_st b n (z5 0 + 1)
            omega
          · rw [a6.2]
            show am_up hc5.1 (ak_T u + 12) Mt (k : Int) (ak_T u + 13) Mt = (z5 1 : Int)
            rw [ak_up_out (by omega), a5.2, a4.2, t13, q1']
        · obtain ⟨hm6, wr6, cl6⟩ := lk_close_bad (e := e) (ρ := ρ) (dm := d + 434) (t := 41) (o := 0) (by decide) I5' pt5 no
          exact wend _ _ (ak_WR_fm fm5 h38 (w38 I5') wr6) (fun Q X g => run5 Q X (cl6 _ _ g))
      · obtain ⟨hx, y, hmx, wr, go5⟩ := R
        subst hx
        have wr1 := ak_WR_M (ak_WR_fm fm4 h38 (w38 I4) wr) (q := 126) (k := 40 * p + Mt) (v := y) (Or.inl ⟨Or.inr rfl, by omega, by omega⟩)
        obtain ⟨hm6, wf, cl⟩ := ak_MV_get (e := e) (r := 1) (d := d + 434 + 5) (ρ := ρ) (am_w211 (X := ak_F) (d := d + 434) (t := 41) (P := fun h' => ak_wf (am_up hmx.1 126 (40 * p + Mt) y, hmx.2) h') wr1.1 (fun h' wf => wf))
        exact wend _ _ (ak_WR_wf wr1 wf) (fun Q X g => run3 Q X (op4 _ _ (am_s208 (fun _ q => absurd (tk4.symm.trans q) n41) (fun _ => ⟨fun _ => go5 _ _ (cl _ _ g), fun q => absurd rfl q⟩))))
    · have I5' := ak_PI_tab hu I4 (k := Mt) (v := 0) (k' := 40 * p + Mt) (v' := 0) (q := 126) (Or.inr rfl)
      have fm5 : ak_fm u p hc hm (am_up hc4.1 (ak_T u + 12) Mt 0, hc4.2) (am_up hm4.1 126 (40 * p + Mt) 0, hm4.2) := by
        obtain ⟨f1, f2, f3, f4⟩ := fm4
        exact ⟨ak_pC_upI f1 (Or.inr (Or.inr (Or.inr (by omega)))), ak_pM_upI f2 (Or.inr (Or.inr (Or.inr (Or.inl ⟨by decide, by decide, by omega, by omega⟩)))), f3, f4⟩
      have G5 := ak_PRG_fr G4 (hc' := (am_up hc4.1 (ak_T u + 12) Mt 0, hc4.2)) (hm' := (am_up hm4.1 126 (40 * p + Mt) 0, hm4.2)) (z2 := ak_zu (ak_zu z 0 (z 0 + 1 + 1)) 0 (z 0 + 1 + 1 + 1)) (fun q k h1 h2 h3 => ak_up_out (by omega)) (fun q k h => ak_up_out (by omega)) (fun _ _ _ => rfl) ⟨Nat.le_refl _, Nat.le_refl _, Nat.le_refl _⟩ (fun q k h1 h2 h3 => ak_up_out (by omega)) (fun q k h1 h2 h3 => ak_up_out (by omega))
      have run5 : ∀ (Q : ak_S → Prop) (X : Nat → ak_S → Prop), ak_MV e 1 (d + 439) ρ 211 [am_r 110, am_i 41] (am_up hm4.1 126 (40 * p + Mt) 0, hm4.2) (fun h9 => ak_MI e 1 (d + 439) ρ 232 [am_r 110] h9 (fun v11 h10 => Q (am_up h10.1 125 (40 * p + Mt) v11, h10.2)) (fun _ _ => False)) (fun _ _ => False) → ak_MV e 1 (d + 440) ρ 236 [am_r 110] hm Q X :=
        fun Q X g => run3 Q X (op4 _ _ (am_s208 (fun _ _ => ⟨fun q => absurd q (by decide), fun _ => g⟩) (fun q => absurd ⟨hf4, tk4.trans k41⟩ q)))
      refine am_s11 hu I5'.1 (by decide) (fun k41' hc6 C6 fr6 => ?_) (fun no => absurd k41 no)
      obtain ⟨hm6, I6, e6, cl6, -⟩ := lk_close (e := e) (ρ := ρ) (dm := d + 434) (o := 0) hu I5' (Nat.le_refl _) k41' C6 fr6
      have su6 : ak_st b n (z 0 + 1 + 1 + 1) + 1 ≤ ak_st b n (z 0 + 1 + 1 + 1 + 1) := ak_st_up I4.1 (ak_cc_lt I4.1 (by rw [k41']; decide))
      have a6 := e6.2.2.2.2.2.2.1 Mt
      refine lk_mtail (kp := 0) hu I6 hM ?_ (show z 0 < z 0 + 1 + 1 + 1 + 1 by omega) h38 (ak_fm_trans fm5 (ak_fm_ext e6)) (ak_PRG_ext G5 e6) ?_ (a6.1.trans ak_up_at1) ((e6.2.2.2.2.2.2.2.1 126 _ (by decide) (by decide)).trans ak_up_at1) (by decide) (fun Q X g => run5 Q X (cl6 _ _ g))
      · unfold ak_POT
        show 2 * z 1 ≤ 3 * ak_st b n (z 0 + 1 + 1 + 1 + 1) + z 5 + 10 * 0 + 3 * 0 ∧ z 2 ≤ ak_st b n (z 0 + 1 + 1 + 1 + 1) + 2 * 0 + 0 ∧ 13 * z 3 ≤ ak_st b n (z 0 + 1 + 1 + 1 + 1) + 13 * 0 ∧ 6 * z 4 ≤ ak_st b n (z 0 + 1 + 1 + 1 + 1)
        omega
      · rw [a6.2]
        show am_up hc4.1 (ak_T u + 12) Mt 0 (ak_T u + 13) Mt = (z 1 : Int)
        rw [ak_up_out (by omega), a4.2, t13]
  · have wr1 := ak_WR_fm fm3 h38 (w38 I3) wr
    have wr2 := ak_WR_M wr1 (q := 126) (k := 40 * p + Mt) (v := 0) (Or.inl ⟨Or.inr rfl, by omega, by omega⟩)
    obtain ⟨hm6, wf, cl⟩ := ak_MV_get (e := e) (r := 1) (d := d + 434 + 5) (ρ := ρ) (am_w211 (X := ak_F) (d := d + 434) (t := 41) (P := fun h' => ak_wf (am_up (ak_wr (am_up (am_up hm3.1 110 42 1) 138 0 0, hm3.2)).1 126 (40 * p + Mt) 0, hm3.2) h') wr2.1 (fun h' wf => wf))
    exact wend _ _ (ak_WR_wf wr2 wf) (fun Q X g => run3 Q X (op4 _ _ (am_w208 wr1.1 ⟨fun _ => am_w230 (d := d + 437) wr1.1 (cl _ _ g), fun q => absurd rfl q⟩)))
end LKM2
