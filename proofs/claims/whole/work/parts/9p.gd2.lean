/-! guards: the statement, both sides at once -/
section GD2
variable {e : ak_X3} {d dd dm u p : Nat} {b : Nat → Int} {n m lv o Mt : Nat} {D : Nat → Nat} {z : Nat → Nat} {hc hm hcF hmF : ak_S} {ρ : List Nat} {C M : Nat → Nat → Int}
/-- a guard read: put together -/
theorem ak_gd_fold {zA z1 zF zB zE : Nat → Nat} {hc1 hm1 : ak_S} {xa x1 x2 v3 v4 w : Int} (zAe : zA 1 = zE 1 + 1 ∧ zA 2 = zE 2 ∧ zA 3 = zE 3 ∧ zA 4 = zE 4 ∧ zA 5 = zE 5) (zBe : zB 1 = z 1 + 1 ∧ zB 2 = z 2 + 1 ∧ zB 3 = z 3 + 1 ∧ zB 4 = z 4 ∧ zB 5 = z 5)
    (lE : zB 1 ≤ zE 1 ∧ zB 2 ≤ zE 2 ∧ zB 3 ≤ zE 3 ∧ zB 4 ≤ zE 4 ∧ zB 5 ≤ zE 5) (l1 : zA 1 ≤ z1 1 ∧ zA 2 ≤ z1 2 ∧ zA 3 ≤ z1 3 ∧ zA 4 ≤ z1 4 ∧ zA 5 ≤ z1 5) (o20 : o ≤ 20) (g500 : z 3 < 500)
    (L : ak_OS u p o (ak_lt Mt lv) (z 3) zA z1 hc1 hm1 x1 x2) (md : ak_mid u p zA z1 hc1 hm1 zF hcF hmF) (sA : ak_sub u p (ak_PL u p (o + 1) xa (ak_lt Mt lv)) zB zE zF hcF hmF)
    (nd : ak_nd hmF (9000 * p + z 2) 35 xa x1 v3 v4 (-1) w) (gap : ∀ j : Nat, z1 4 ≤ j → j < zF 4 → (z 3 : Int) < hcF.1 (ak_T u + 10) j)
    (f1 : hcF.1 (ak_T u + 2) (z 1) = 36 ∧ hcF.1 (ak_T u + 3) (z 1) = (z 3 : Int) ∧ hcF.1 (ak_T u + 2) (zE 1) = 37 ∧ hcF.1 (ak_T u + 3) (zE 1) = (z 3 : Int) ∧ hcF.1 (ak_T u + 4) (z 3) = (z 4 : Int) ∧ ∀ j : Nat, z 4 ≤ j → j < zE 4 → (z 3 : Int) < hcF.1 (ak_T u + 10) j)
    (f6 : hcF.1 (ak_T u + 6) (z 3) = (zF 1 : Int)) (ft : ak_fut u p z zF ((9000 * p + z 2 : Nat) : Int) hcF.1 hmF.1 C M)
    (tl : (M 118 (9000 * p + z 2) ≠ 1 ∧ C (ak_T u + 5) (z 3) = -1 ∧ zF 1 = z1 1) ∨ (M 118 (9000 * p + z 2) = 1 ∧ C (ak_T u + 5) (z 3) = (z1 1 : Int) ∧ ∃ c3, ak_X2 C M (ak_T u) p (o + 1) (zF 2 - z1 2) (M 117 (9000 * p + z 2)) (ak_lt Mt lv) (z1 1) c3 ∧ C (ak_T u + 2) c3 = 38 ∧ C (ak_T u + 3) c3 = (z 3 : Int) ∧ zF 1 = c3 + 1)) :
    ak_X4 C M (ak_T u) p o (zF 2 - z 2) ((9000 * p + z 2 : Nat) : Int) (ak_lt Mt lv) (z 1) (zF 1) := by
  intro Gd i hG hG2 hi
  obtain ⟨G1, rfl⟩ : ∃ G1, Gd = G1 + 1 := ⟨Gd - 1, by omega⟩
  have eG : ak_lt Mt lv + 1000 * (G1 + 1) - 1000 = ak_lt Mt lv + 1000 * G1 := by omega
  have lF1 := md.1 1 (by decide)
  have lF2 := md.1 2 (by decide)
  have lF3 := md.1 3 (by decide)
  have lF4 := md.1 4 (by decide)
  have lF5 := md.1 5 (by decide)
  have tA := ak_sub_T sA ft (by omega) (show z 4 ≤ zE 4 by omega) (Or.inl (by omega))
  have fA := ak_mid_fut md ft (by omega) (show z 4 ≤ z1 4 by omega) (Or.inl (by omega))
  have tO := ak_OS_end L fA (fun j h1 h2 => by
    rcases Nat.lt_or_ge j (zF 4) with q | q
    · rw [(ft.1.2.2.1 j (by omega) q).2.2.2]
      have := gap j h1 q
      omega
    · have := ft.2.2 j q h2
      omega) (G := G1) (i := i - 1) (by omega) (by omega) (by omega)
  have tO2 := ak_T3_low tO (show z 4 ≤ zA 4 by omega) (fun j h1 h2 => by
    rw [(ft.1.2.2.1 j h1 (by omega)).2.2.2]
    have := f1.2.2.2.2.2 j h1 (by omega)
    omega)
  obtain ⟨m1, m2, m3, m4, m5, m6⟩ := ak_nd_M nd ft (Nat.le_refl _) (show z 2 < zF 2 by omega)
  have c1 := ft.1.1 (z 1) (Nat.le_refl _) (show z 1 < zF 1 by omega)
  have c2 := ft.1.1 (zE 1) (by omega) (show zE 1 < zF 1 by omega)
  obtain ⟨r4, r5, r6⟩ := ft.1.2.1 (z 3) (Nat.le_refl _) (show z 3 < zF 3 by omega)
  have tA' : ak_X2 C M (ak_T u) p (o + 1) (zE 2 - zB 2) xa (ak_lt Mt lv) (zB 1) (zE 1) := tA
  rw [← m2, zBe.1] at tA'
  rw [← m3, zAe.1] at tO2
  exact ak_T3_fold ⟨_, rfl, Or.inr (Or.inr (Or.inr (Or.inr (Or.inr (Or.inr (Or.inr (Or.inr (Or.inr (Or.inr (Or.inr (Or.inr (Or.inr (Or.inr ⟨m1, zE 1, z1 1, z 3, z 4, i - 1, c1.1.trans f1.1, c1.2.trans f1.2.1, g500, ⟨by omega, by omega, by rw [eG]; exact tA' G1 (i - 1) (by omega) (by omega) (by omega)⟩, c2.1.trans f1.2.2.1, c2.2.trans f1.2.2.2.1, r4.trans f1.2.2.2.2.1, by rw [eG]; exact tO2, r6.trans f6, by rw [eG]; exact tl.imp (fun q => q) (fun q => ⟨q.1, q.2.1, q.2.2.imp (fun c3 q3 => ⟨q3.1 G1 (i - 1) (by omega) (by omega) (by omega), q3.2⟩)⟩)⟩)))))))))))))⟩
theorem lk_guard {ρ0 ρ3 ρ4 t : Nat} (hu : u = 0 ∨ u = 1) (hS : ∀ t', t' < t → ak_SX e u p b n m ρ0 ρ3 ρ4 ρ t') (w : ak_PI u p b n m lv D o Mt z hc hm) (pt : ak_POT b n o 1 z) (ht : m ≤ z 0 + t) (hk : ak_kd b n (ak_st b n (z 0)) = 209) :
    ak_MV e 0 (d + 20 * (20 - o) + 24) [ρ0, ak_T u, ak_T u + 1, ρ3, ρ4] 32 [am_r 2, am_i (o : Int)] hc (ak_KQ e ρ (d + 20 * (20 - o) + 25) u p b n m lv D o Mt z hc hm) (ak_XXs e ρ (d + 20 * (20 - o) + 25) 233 u p hc hm) := by
  have hT := ak_T_in hu
  have tk : hm.1 110 33 = 209 := w.2.1.2.2.1.trans hk
  have p34 := w.2.1.2.2.2.1
  have hp2 := w.2.1.1.2.1
  have rm := ak_room w (by decide) pt
  have hst := (ak_st_n w).1
  have n6 := (ak_st_n w).2.1
  have o20 := (ak_st_n w).2.2.1
  have bv : 0 ≤ ((9000 * p + z 2 : Nat) : Int) ∧ ((9000 * p + z 2 : Nat) : Int) < 18000 := by omega
  have pt' := pt
  unfold ak_POT at pt'
  have g500 : z 3 < 500 := by omega
  have su0 := ak_st_key (j := 9) (q := 4) w.1 hk (by decide) rfl (by decide)
  -- the ons and what stands behind them
  have loop : ∀ (c : Nat) (D1 zA z1 zB zE : Nat → Nat) (xa x1 x2 x4 : Int) (hc1 hm1 : ak_S) (nn : Nat), ak_PI u p b n m lv D1 o Mt z1 hc1 hm1 → z 0 < z1 0 → (x4 = 0 ∨ x4 = 1) →
      (2 * z1 1 + 4 + 3 * ak_st b n (z 0) + z 5 ≤ 2 * z 1 + 3 * ak_st b n (z1 0) + z1 5 ∧ z1 2 + ak_st b n (z 0) ≤ z 2 + ak_st b n (z1 0) ∧ 13 * z1 3 + ak_st b n (z 0) ≤ 13 * z 3 + ak_st b n (z1 0) + (if x4 = 0 then 6 else 0) ∧ 6 * z1 4 + 1 + ak_st b n (z 0) ≤ 6 * z 4 + ak_st b n (z1 0)) →
      ak_ext u p z z1 hc hm hc1 hm1 → (∀ s, s < lv → D1 s = D s) → (zA 1 = zE 1 + 1 ∧ zA 2 = zE 2 ∧ zA 3 = zE 3 ∧ zA 4 = zE 4 ∧ zA 5 = zE 5) → (zB 1 = z 1 + 1 ∧ zB 2 = z 2 + 1 ∧ zB 3 = z 3 + 1 ∧ zB 4 = z 4 ∧ zB 5 = z 5) → (zB 1 ≤ zE 1 ∧ zB 2 ≤ zE 2 ∧ zB 3 ≤ zE 3 ∧ zB 4 ≤ zE 4 ∧ zB 5 ≤ zE 5) → (zA 1 ≤ z1 1 ∧ zA 2 ≤ z1 2 ∧ zA 3 ≤ z1 3 ∧ zA 4 ≤ z1 4 ∧ zA 5 ≤ z1 5) →
      ak_OS u p o (ak_lt Mt lv) (z 3) zA z1 hc1 hm1 x1 x2 → ak_sub u p (ak_PL u p (o + 1) xa (ak_lt Mt lv)) zB zE z1 hc1 hm1 → ak_GH u z (zE 1) (zE 4) hc1 → ak_nd hm1 (9000 * p + z 2) 35 xa x1 (-1) (-1) (-1) ((ak_st b n (z 0) : Nat) : Int) → (x4 = 0 → ak_kd b n (ak_st b n (z1 0)) = 210 ∨ ak_kd b n (ak_st b n (z1 0)) = 211) → m + 1 ≤ z1 0 + c → nn + 1 ≤ z1 0 →
      (∀ (Q : Int → ak_S → Prop) (X : Nat → ak_S → Prop), ak_W0 e 1 (d + 20 * (20 - o) + 23) 234 ρ 27 [some (am_r 110), none, some (am_i ((9000 * p + z 2 : Nat) : Int)), some (am_i x2), some (am_i x4), none] [] hm1 (ak_qi Q (fun _ _ => False)) → ak_MI e 1 (d + 20 * (20 - o) + 25) ρ 233 [am_r 110] hm Q X) →
      ak_W0 e 0 (d + 20 * (20 - o) + 23) 32 [ρ0, ak_T u, ak_T u + 1, ρ3, ρ4] 78 [some (am_r 2), some (am_i (o : Int)), some (am_i (z 3 : Int)), some (am_i (nn : Int))] [] hc1 (ak_qv (ak_KQ e ρ (d + 20 * (20 - o) + 25) u p b n m lv D o Mt z hc hm) (ak_XXs e ρ (d + 20 * (20 - o) + 25) 233 u p hc hm)) := by
    intro c
    induction c with
    | zero =>
      intro D1 zA z1 zB zE xa x1 x2 x4 hc1 hm1 nn I1 l0 h4 r1 e1 d1 qA qB qE q1 L sA GH nd cn hc0 hnn run
      have := I1.1.1.1
      omega
    | succ c ih =>
      intro D1 zA z1 zB zE xa x1 x2 x4 hc1 hm1 nn I1 l0 h4 r1 e1 d1 qA qB qE q1 L sA GH nd cn hc0 hnn run
      have hkC := I1.1.2.2.2.2.1
      have tk1 := I1.2.1.2.2.1
      have hf1 := I1.2.2.1
      have h1m := I1.1.1.1
      have h6m := I1.1.1.2.1
      have hst1 := (ak_st_n I1).1
      have z156 := (ak_st_n I1).2.2.2
      have le1 := ak_ext_le e1
      have bg : 0 ≤ (z 3 : Int) ∧ (z 3 : Int) < 500 := by omega
      refine am_k32_78 hu ⟨fun q => absurd q (by omega), fun _ => ?_⟩
      rw [hkC]
      refine ⟨fun n210 => ?_, fun k210 => ?_⟩
      · -- behind the ons
        refine am_k32_110 hu ?_
        rw [hkC]
        refine ⟨fun n211 => ?_, fun k211 => ?_⟩
        · have x41 : x4 = 1 := by
            rcases h4 with q | q
            · exact absurd (cn q) (by omega)
            · exact q
          subst x41
          refine ⟨bg, ?_⟩
          rw [ak_natn, I1.2.2.2.2.2.2.2.2.1]
          have IF := ak_PI_C hu I1 (q := ak_T u + 6) (k := z 3) (v := (z1 1 : Int)) (Or.inl (by omega))
          have eF := ak_ext_C e1 hu (q := ak_T u + 6) (k := z 3) (v := (z1 1 : Int)) (by omega) (fun q => absurd q (by omega)) (fun _ => Nat.le_refl _) (fun q => absurd q (by omega)) (fun q => absurd q (by omega)) (by omega)
          have mdF := ak_mid_C (ak_mid_refl (u := u) (p := p) (za := zA) (zb := z1) (hcb := hc1) (hmb := hm1)) (q := ak_T u + 6) (k := z 3) (v := (z1 1 : Int)) (Or.inr rfl) (by omega)
          have sF := ak_sub_C sA (q := ak_T u + 6) (j := z 3) (v := (z1 1 : Int)) (Or.inr rfl) (by omega)
          obtain ⟨g1, g2, g3, g4, g5, g6, g7⟩ := GH
          have r1' := r1.2.2.1
          rw [if_neg (show ¬ ((1 : Int) = 0) by decide)] at r1'
          refine ⟨D1, z1, z 2, hm1, ⟨IF, l0, ⟨by omega, r1.2.1, by omega, by omega⟩, eF, d1, Nat.le_refl _, by omega, nd.2.2.2.2.2.1, nd.2.2.2.2.2.2, fun C M ft => ?_⟩, fun Q X g => run Q X (am_k234_27 (am_s208 (fun _ q => absurd (tk1.symm.trans q) n210) (fun _ => ⟨fun _ => am_s208 (fun _ q => absurd (tk1.symm.trans q) n211) (fun _ => ⟨fun _ => ⟨fun _ => g, fun q => absurd q (by decide)⟩, fun q => absurd rfl q⟩), fun q => absurd rfl q⟩)))⟩
          have r5 := (ft.1.2.1 (z 3) (Nat.le_refl _) (show z 3 < z1 3 by omega)).2.1
          have m118 := (ak_nd_M nd ft (Nat.le_refl _) (show z 2 < z1 2 by omega)).2.2.2.2.1
          exact ak_gd_fold qA qB qE q1 o20 g500 L mdF sF nd (fun j h1 h2 => absurd h2 (by omega)) ⟨(ak_up_out1 (by omega)).trans g1, (ak_up_out1 (by omega)).trans g2, (ak_up_out1 (by omega)).trans g3, (ak_up_out1 (by omega)).trans g4, (ak_up_out1 (by omega)).trans g5, fun j h1 h2 => by rw [ak_up_out1 (by omega)]; exact g7 j h1 h2⟩ ak_up_at1 ft (Or.inl ⟨by rw [m118]; decide, r5.trans ((ak_up_out1 (by omega)).trans g6), rfl⟩)
        · -- ensure
          have su1 := ak_st_key (j := 11) (q := 5) I1.1 k211 (by decide) rfl (by decide)
          refine lk_adv (dm := d + 20 * (20 - o) + 20) (ρ := ρ) hu I1 (by omega) (fun hc2 hm2 I2 fr2 frm2 e2 su2 rd2 => ⟨bg, ?_⟩)
          rw [ak_natn, I2.2.2.2.2.2.2.2.2.1]
          have hst2 : ak_st b n (z1 0 + 1) ≤ n := (ak_st_n I2).1
          have e02 := ak_ext_trans e1 e2
          have I3 := ak_PI_C hu I2 (q := ak_T u + 5) (k := z 3) (v := (z1 1 : Int)) (Or.inl (by omega))
          have e03 := ak_ext_C e02 hu (q := ak_T u + 5) (k := z 3) (v := (z1 1 : Int)) (by omega) (fun q => absurd q (by omega)) (fun _ => Nat.le_refl _) (fun q => absurd q (by omega)) (fun q => absurd q (by omega)) (by omega)
          have run2 : ∀ (Q : Int → ak_S → Prop) (X : Nat → ak_S → Prop), ak_MI e 1 (d + 20 * (20 - o) + 23) ρ 232 [am_r 110] hm2 (fun v8 h7 => Q ((9000 * p + z 2 : Nat) : Int) (am_up (am_up h7.1 117 (9000 * p + z 2) v8) 118 (9000 * p + z 2) 1, h7.2)) (fun _ _ => False) → ak_MI e 1 (d + 20 * (20 - o) + 25) ρ 233 [am_r 110] hm Q X := by
            intro Q X g
            refine run Q X (am_k234_27 (am_s208 (fun _ q => absurd (tk1.symm.trans q) n210) (fun _ => ⟨fun _ => am_s208 (fun _ _ => ⟨fun q => absurd q (by decide), fun _ => rd2 _ _ (ak_MI_imp g (fun v8 h7 g2 => ⟨bv, bv, fun _ => ?_, fun q => absurd q (by decide)⟩) (fun _ _ q => q))⟩) (fun q => absurd ⟨hf1, tk1.trans k211⟩ q), fun q => absurd rfl q⟩)))
            rw [ak_natn]
            exact g2
          have r1' : 13 * z1 3 + ak_st b n (z 0) ≤ 13 * z 3 + ak_st b n (z1 0) + 6 := by
            have := r1.2.2.1
            split at this <;> omega
          refine ak_MV_deep (Nat.le_succ _) (lk_bcell (q := 117) (y := z 2) (dd := d + 20 * (20 - o) + 21) (ρ := ρ) hu (by decide) (by omega) hS I3 (show z1 2 ≤ 6130 by omega) (show 2 * z1 1 ≤ 3 * ak_st b n (z1 0 + 1) + z1 5 + 10 * o + 13 ∧ z1 2 ≤ ak_st b n (z1 0 + 1) + 2 * o + 3 ∧ 13 * z1 3 ≤ ak_st b n (z1 0 + 1) + 13 * o + 14 ∧ 6 * z1 4 ≤ ak_st b n (z1 0 + 1) + 1 by omega) (show m ≤ z1 0 + 1 + t by omega) (show z 2 < z1 2 by omega) (fun D5 z5 x5 hc5 hm5 I5 l5 r5 e5 d5 s5 go5 => ?_) (fun hcx x5 hmx wr go5 => ?_))
          · have le5 := ak_ext_le e5
            have le51 : z1 1 ≤ z5 1 := le5.2.1
            have le52 : z1 2 ≤ z5 2 := le5.2.2.1
            have le53 : z1 3 ≤ z5 3 := le5.2.2.2.1
            have le54 : z1 4 ≤ z5 4 := le5.2.2.2.2.1
            have le55 : z1 5 ≤ z5 5 := le5.2.2.2.2.2.1
            have l5' : z1 0 + 1 < z5 0 := l5
            have r5' : 2 * z5 1 + 6 + 3 * ak_st b n (z1 0 + 1) + z1 5 ≤ 2 * z1 1 + 3 * ak_st b n (z5 0) + z5 5 ∧ z5 2 + 2 + ak_st b n (z1 0 + 1) ≤ z1 2 + ak_st b n (z5 0) ∧ 13 * z5 3 + 2 + ak_st b n (z1 0 + 1) ≤ 13 * z1 3 + ak_st b n (z5 0) ∧ 6 * z5 4 + 2 + ak_st b n (z1 0 + 1) ≤ 6 * z1 4 + ak_st b n (z5 0) := r5
            have hs5 := (ak_st_n I5).1
            have z55 := (ak_st_n I5).2.2.2
            have nd5 := ak_nd_118 (v := 1) (ak_nd_117 (v := x5) (ak_nd_ext e5 (show z 2 < z1 2 by omega) (ak_nd_ext e2 (show z 2 < z1 2 by omega) nd)))
            have I6 := ak_PI_cell hu I5 (q := 118) (k := 9000 * p + z 2) (v := 1) (Or.inl (by decide))
            have e06 := ak_ext_cell (ak_ext_cell (ak_ext_trans e03 e5) (q := 117) (k := 9000 * p + z 2) (v := x5) (by decide) (Nat.le_refl _) (by omega)) (q := 118) (k := 9000 * p + z 2) (v := 1) (by decide) (Nat.le_refl _) (by omega)
            have I7 := ak_PI_put hu I6 (r := 38) (x := (z 3 : Int))
            have e7 := ak_ext_put (p := p) (z := z5) (hc := hc5) (hm := (am_up (am_up hm5.1 117 (9000 * p + z 2) x5) 118 (9000 * p + z 2) 1, hm5.2)) (r := 38) (x := (z 3 : Int)) hu
            have e07 := ak_ext_trans e06 e7
            have md5 := ak_mid_cell (ak_mid_cell (ak_mid_ext (ak_mid_C (ak_mid_ext (ak_mid_refl (u := u) (p := p) (za := zA) (zb := z1) (hcb := hc1) (hmb := hm1)) e2) (q := ak_T u + 5) (k := z 3) (v := (z1 1 : Int)) (Or.inl rfl) (by omega)) e5) (q := 117) (k := 9000 * p + z 2) (v := x5) (by decide) (Or.inl (by omega))) (q := 118) (k := 9000 * p + z 2) (v := 1) (by decide) (Or.inl (by omega))
            have mdF := ak_mid_C (ak_mid_ext md5 e7) (q := ak_T u + 6) (k := z 3) (v := ((z5 1 + 1 : Nat) : Int)) (Or.inr rfl) (by omega)
            have sA5 := ak_sub_cell (ak_sub_cell (ak_sub_ext (ak_sub_C (ak_sub_ext sA e2) (q := ak_T u + 5) (j := z 3) (v := (z1 1 : Int)) (Or.inl rfl) (by omega)) e5) (q := 117) (j := 9000 * p + z 2) (v := x5) (by decide) (Or.inl (by omega))) (q := 118) (j := 9000 * p + z 2) (v := 1) (by decide) (Or.inl (by omega))
            have sAF := ak_sub_C (ak_sub_ext sA5 e7) (q := ak_T u + 6) (j := z 3) (v := ((z5 1 + 1 : Nat) : Int)) (Or.inr rfl) (by omega)
            have sE5 := ak_sub_cell s5 (q := 118) (j := 9000 * p + z 2) (v := 1) (by decide) (Or.inl (show 9000 * p + z 2 < 9000 * p + z1 2 by omega))
            have sEF := ak_sub_C (ak_sub_ext sE5 e7) (q := ak_T u + 6) (j := z 3) (v := ((z5 1 + 1 : Nat) : Int)) (Or.inr rfl) (show z 3 < z1 3 by omega)
            have IF := ak_PI_C hu I7 (q := ak_T u + 6) (k := z 3) (v := ((z5 1 + 1 : Nat) : Int)) (Or.inl (by omega))
            have eF := ak_ext_C e07 hu (q := ak_T u + 6) (k := z 3) (v := ((z5 1 + 1 : Nat) : Int)) (by omega) (fun q => absurd q (by omega)) (fun _ => Nat.le_refl _) (fun q => absurd q (by omega)) (fun q => absurd q (by omega)) (by omega)
            have G2 := ak_GH_ext GH e2 (by omega) (by omega) (by omega) (by omega)
            obtain ⟨g1, g2, g3, g4, g5, g6, g7⟩ := G2
            have a57 := (ak_ext_trans e5 (ak_ext_put (p := p) (z := z5) (hc := hc5) (hm := hm5) (r := 38) (x := (z 3 : Int)) hu)).2.1
            have v5 : (ak_put hc5 u (z5 1) 38 (z 3 : Int)).1 (ak_T u + 5) (z 3) = (z1 1 : Int) := (a57.2.1 (z 3) (Nat.zero_le _) (show z 3 < z1 3 by omega)).2.1.trans ak_up_at1
            refine am_s3 hu I5.2.2.2.2.2.2.2.2.1 (show z5 1 < 9600 by omega) ⟨bg, ?_⟩
            rw [I7.2.2.2.2.2.2.2.2.1]
            refine ⟨D5, _, z 2, _, ⟨IF, show z 0 < z5 0 by omega, ?_, eF, fun s hs => (d5 s hs).trans (d1 s hs), Nat.le_refl _, show z 2 < z5 2 by omega, nd5.2.2.2.2.2.1, nd5.2.2.2.2.2.2, fun C M ft => ?_⟩, fun Q X g => run2 Q X (go5 _ _ g)⟩
            · show 2 * (z5 1 + 1) + 2 + 3 * ak_st b n (z 0) + z 5 ≤ 2 * z 1 + 3 * ak_st b n (z5 0) + z5 5 ∧ z5 2 + ak_st b n (z 0) ≤ z 2 + ak_st b n (z5 0) ∧ 13 * z5 3 + ak_st b n (z 0) ≤ 13 * z 3 + ak_st b n (z5 0) ∧ 6 * z5 4 + ak_st b n (z 0) ≤ 6 * z 4 + ak_st b n (z5 0)
              omega
            · have tC := ak_sub_T sEF ft (show z 1 ≤ z1 1 ∧ z 2 ≤ z1 2 ∧ z 3 ≤ z1 3 ∧ z 4 ≤ z1 4 ∧ z 5 ≤ z1 5 by omega) (show z 4 ≤ z5 4 by omega) (Or.inl (show ((9000 * p + z 2 : Nat) : Int) < ((9000 * p + z1 2 : Nat) : Int) by omega))
              have tC' : ak_X2 C M (ak_T u) p (o + 1) (z5 2 - z1 2) x5 (ak_lt Mt lv) (z1 1) (z5 1) := tC
              obtain ⟨m1, m2, m3, m4, m5, m6⟩ := ak_nd_M nd5 ft (Nat.le_refl _) (show z 2 < z5 2 by omega)
              have c1 := ft.1.1 (z5 1) (show z 1 ≤ z5 1 by omega) (show z5 1 < z5 1 + 1 by omega)
              have r5g := (ft.1.2.1 (z 3) (Nat.le_refl _) (show z 3 < z5 3 by omega)).2.1
              rw [← m4] at tC'
              refine ak_gd_fold qA qB qE q1 o20 g500 L mdF sAF nd5 (fun j h1 h2 => ?_) ⟨?_, ?_, ?_, ?_, ?_, fun j h1 h2 => ?_⟩ ak_up_at1 ft (Or.inr ⟨m5, r5g.trans ((ak_up_out1 (by omega)).trans v5), z5 1, tC', (c1.1.trans (ak_up_out1 (by omega))).trans ak_put_2, (c1.2.trans (ak_up_out1 (by omega))).trans ak_put_3, rfl⟩)
              · have h3 : (z1 3 : Int) ≤ hc5.1 (ak_T u + 10) j := (e5.2.2.1 j h1 h2).1
                rw [ak_up_out1 (by omega), show (ak_put hc5 u (z5 1) 38 (z 3 : Int)).1 (ak_T u + 10) j = hc5.1 (ak_T u + 10) j by simp [ak_put, am_up]]
                omega
              · exact (ak_up_out1 (by omega)).trans ((a57.1 _ (Nat.zero_le _) (show z 1 < z1 1 by omega)).1.trans ((ak_up_out1 (by omega)).trans g1))
              · exact (ak_up_out1 (by omega)).trans ((a57.1 _ (Nat.zero_le _) (show z 1 < z1 1 by omega)).2.trans ((ak_up_out1 (by omega)).trans g2))
              · exact (ak_up_out1 (by omega)).trans ((a57.1 _ (Nat.zero_le _) (show zE 1 < z1 1 by omega)).1.trans ((ak_up_out1 (by omega)).trans g3))
              · exact (ak_up_out1 (by omega)).trans ((a57.1 _ (Nat.zero_le _) (show zE 1 < z1 1 by omega)).2.trans ((ak_up_out1 (by omega)).trans g4))
              · exact (ak_up_out1 (by omega)).trans ((a57.2.1 _ (Nat.zero_le _) (show z 3 < z1 3 by omega)).1.trans ((ak_up_out1 (by omega)).trans g5))
              · rw [ak_up_out1 (by omega), (a57.2.2.1 j (Nat.zero_le _) (show j < z1 4 by omega)).2.2.2, ak_up_out1 (by omega)]
                exact g7 j h1 h2
          · have wr2 := ak_WR_cell (ak_WR_ext w I3 (Nat.le_refl _) e03 wr) (q := 118) (k := 9000 * p + z 2) (v := 1) (by decide) (by omega) (by omega)
            exact ⟨rfl, ((9000 * p + z 2 : Nat) : Int), _, ak_WR_s wr2, fun Q X g => run2 Q X (go5 _ _ g)⟩
      · -- an on
        have bx : x2 < 0 ∨ (0 ≤ x2 ∧ x2 < 18000 ∧ x2.toNat < 9000 * p + z1 2 ∧ 9000 * p ≤ x2.toNat) := by
          rcases L with ⟨q1, q2, -⟩ | ⟨l, q2, q3, q4, -⟩
          · exact Or.inl (by omega)
          · exact Or.inr (by omega)
        have r1' : 13 * z1 3 + ak_st b n (z 0) ≤ 13 * z 3 + ak_st b n (z1 0) + 6 := by
          have := r1.2.2.1
          split at this <;> omega
        refine lk_on (ρ := ρ) (S := ((9000 * p + z 2 : Nat) : Int)) (x2 := x2) hu hS I1 (by omega) k210 (z 3) (by omega) g500 w e1 (Nat.le_refl _) (by omega) (fun Q X g => run Q X (am_k234_27 (am_s208 (fun _ _ => ⟨fun q => absurd q (by decide), fun _ => g⟩) (fun q => absurd ⟨hf1, tk1.trans k210⟩ q)))) ⟨bv, by omega⟩ bx (fun D2 z2 hc2 hm2 I2 l2 r2 e2 d2 md2 sb2 GH2 nd2 k1 k2 k3 k4 k5 k119 el2 run2 => ?_)
        rw [ak_wj (show nn < 1000000 by omega)]
        have hs2 := (ak_st_n I2).1
        have r3 : 13 * z2 3 + ak_st b n (z 0) ≤ 13 * z 3 + ak_st b n (z2 0) + (if (1 : Int) = 0 then 6 else 0) := by
          rw [if_neg (by decide)]
          omega
        have z22 : z2 2 < 9000 := by omega
        have sA2 := sb2 (ak_PL u p (o + 1) xa (ak_lt Mt lv)) zB zE (by omega) (by omega) sA
        have GHn := GH2 z (zE 1) (zE 4) GH (by omega) (by omega) (by omega) (by omega)
        have ndn := nd2 (z 2) _ _ _ _ _ _ _ (by omega) nd
        rcases ak_OS_add ⟨q1.1, q1.2.1, q1.2.2.1, q1.2.2.2.1, q1.2.2.2.2⟩ L (md2 zA (by omega)) (Nat.le_refl _) k2 k119 el2 with ⟨y1, y2, L2⟩ | ⟨y1, l, y2, y3, y4, L2⟩
        · subst y1
          subst y2
          have ndw := ak_nd_116 (v := ((9000 * p + z1 2 : Nat) : Int)) ndn
          refine ih D2 zA z2 zB zE xa _ _ 1 hc2 (am_up hm2.1 116 (9000 * p + z 2) ((9000 * p + z1 2 : Nat) : Int), hm2.2) (nn + 1) (ak_PI_cell hu I2 (q := 116) (k := 9000 * p + z 2) (v := ((9000 * p + z1 2 : Nat) : Int)) (Or.inl (by decide))) (by omega) (Or.inr rfl) ⟨by omega, by omega, r3, by omega⟩ (ak_ext_cell e2 (q := 116) (k := 9000 * p + z 2) (v := ((9000 * p + z1 2 : Nat) : Int)) (by decide) (Nat.le_refl _) (by omega)) (fun s hs => (d2 s hs).trans (d1 s hs)) qA qB qE (by omega) ?_ (ak_sub_cell sA2 (q := 116) (j := 9000 * p + z 2) (v := ((9000 * p + z1 2 : Nat) : Int)) (by decide) (Or.inl (by omega))) GHn ndw (fun q => absurd q (by decide)) (by omega) (by omega) (fun Q X g => run2 Q X ⟨fun q => absurd q (by decide), fun _ => by rw [ak_natn]; exact g⟩)
          rcases L2 with ⟨q, -⟩ | ⟨l, g0, g1, g2, g3, g4, T⟩
          · exact absurd q (by omega)
          · refine Or.inr ⟨l, g0, g1, g2, g3, (ak_up_out1 (by omega)).trans g4, fun C M ft G i c hG hG2 hi t3 => T C M (ak_fut_agr ft (ak_agr_upM (by omega) (by omega))) G i c hG hG2 hi t3⟩
        · subst y2
          have ndw := ak_nd_out (q := 119) (j := 9000 * p + l) (v := ((9000 * p + z1 2 : Nat) : Int)) ndn (by omega)
          refine ih D2 zA z2 zB zE xa _ _ 1 hc2 (am_up hm2.1 119 (9000 * p + l) ((9000 * p + z1 2 : Nat) : Int), hm2.2) (nn + 1) (ak_PI_cell hu I2 (q := 119) (k := 9000 * p + l) (v := ((9000 * p + z1 2 : Nat) : Int)) (Or.inl (by decide))) (by omega) (Or.inr rfl) ⟨by omega, by omega, r3, by omega⟩ (ak_ext_cell e2 (q := 119) (k := 9000 * p + l) (v := ((9000 * p + z1 2 : Nat) : Int)) (by decide) (by omega) (by omega)) (fun s hs => (d2 s hs).trans (d1 s hs)) qA qB qE (by omega) L2 (ak_sub_cell sA2 (q := 119) (j := 9000 * p + l) (v := ((9000 * p + z1 2 : Nat) : Int)) (by decide) (Or.inr (Or.inl (by omega)))) GHn ndw (fun q => absurd q (by decide)) (by omega) (by omega) (fun Q X g => run2 Q X ⟨fun _ => by rw [ak_natn]; exact g, fun q => absurd q (by omega)⟩)
  -- the guard itself
  refine ak_MV_of (Nat.le_of_ble_eq_true rfl) (am_k32_0 hu (lk_adv (dm := d + 20 * (20 - o) + 20) (ρ := ρ) hu w (by omega) (fun hc1 hm1 I1 fr1 frm1 e1 su1 rd1 => ?_)))
  have I2 := ak_PI_ng hu I1 (i0 := z 4)
  have e2 : ak_ext u p (ak_zu z 0 (z 0 + 1)) (ak_zu (ak_zu z 0 (z 0 + 1)) 3 (z 3 + 1)) hc1 hm1 (ak_ng hc1 u (z 3) (z 4)) hm1 := ak_ext_ng hu
  refine am_s5 (g := z 3) (i0 := z 4) hu I1.2.2.2.2.2.2.2.2.2.2.1 I1.2.2.2.2.2.2.2.2.2.2.2.1 g500 (am_s3 hu I2.2.2.2.2.2.2.2.2.1 (show z 1 < 9600 by omega) ?_)
  have I3 := ak_PI_put hu I2 (r := 36) (x := (z 3 : Int))
  have e3 := ak_ext_put (p := p) (z := ak_zu (ak_zu z 0 (z 0 + 1)) 3 (z 3 + 1)) (hc := ak_ng hc1 u (z 3) (z 4)) (hm := hm1) (r := 36) (x := (z 3 : Int)) hu
  have I4 := ak_PI_node hu I3 (k := 35) (r := ((ak_st b n (z 0) : Nat) : Int))
  have e4 := ak_ext_node (hc := ak_put (ak_ng hc1 u (z 3) (z 4)) u (z 1) 36 (z 3 : Int)) (hm := hm1) (p := p) (u := u) (z := ak_zu (ak_zu (ak_zu z 0 (z 0 + 1)) 3 (z 3 + 1)) 1 (z 1 + 1)) (k := 35) (r := ((ak_st b n (z 0) : Nat) : Int)) (show z 2 < 9000 by omega)
  have e04 := ak_ext_trans e1 (ak_ext_trans e2 (ak_ext_trans e3 e4))
  have n4 : ak_nd (ak_node hm1 p (z 2) 35 ((ak_st b n (z 0) : Nat) : Int)) (9000 * p + z 2) 35 (-1) (-1) (-1) (-1) (-1) ((ak_st b n (z 0) : Nat) : Int) := ak_nd_new
  have hst1 : ak_st b n (z 0 + 1) ≤ n := (ak_st_n I1).1
  have v4 : (ak_put (ak_ng hc1 u (z 3) (z 4)) u (z 1) 36 (z 3 : Int)).1 (ak_T u + 4) (z 3) = (z 4 : Int) := by simp [ak_put, ak_ng, am_up]
  have v5 : (ak_put (ak_ng hc1 u (z 3) (z 4)) u (z 1) 36 (z 3 : Int)).1 (ak_T u + 5) (z 3) = -1 := by simp [ak_put, ak_ng, am_up]
  have run4 : ∀ (Q : Int → ak_S → Prop) (X : Nat → ak_S → Prop), ak_MI e 1 (d + 20 * (20 - o) + 23) ρ 232 [am_r 110] (ak_node hm1 p (z 2) 35 ((ak_st b n (z 0) : Nat) : Int)) (fun v5 h4 =>
        ak_W0 e 1 (d + 20 * (20 - o) + 23) 234 ρ 27 [some (am_r 110), none, some (am_i ((9000 * p + z 2 : Nat) : Int)), some (am_i (-1)), some (am_i 0), none] [] (am_up h4.1 115 (9000 * p + z 2) v5, h4.2) (ak_qi Q (fun _ _ => False))) (fun _ _ => False) → ak_MI e 1 (d + 20 * (20 - o) + 25) ρ 233 [am_r 110] hm Q X := by
    intro Q X g
    refine am_p233_209 tk (ak_MI_of (Nat.le_of_ble_eq_true rfl) (am_k234_0 ?_))
    rw [p34]
    refine rd1 _ _ (am_s212 I1.2.1.1.1 hp2 I1.2.2.2.2.2.2.2.2.2.1 (show z 2 < 9000 by omega) ?_)
    show ak_MI e 1 (d + 20 * (20 - o) + 23) ρ 232 [am_r 110] (ak_node hm1 p (z 2) 35 ((ak_st b n (z 0) : Nat) : Int)) _ _
    refine ak_MI_imp g (fun v5 h4 g2 => ⟨bv, ?_⟩) (fun _ _ q => q)
    rw [ak_natn]
    exact g2
  refine ak_MV_deep (Nat.le_succ _) (lk_bcell (q := 115) (y := z 2) (dd := d + 20 * (20 - o) + 21) (ρ := ρ) hu (by decide) (by omega) hS I4 (show z 2 + 1 ≤ 6130 by omega) (show 2 * (z 1 + 1) ≤ 3 * ak_st b n (z 0 + 1) + z 5 + 10 * o + 13 ∧ z 2 + 1 ≤ ak_st b n (z 0 + 1) + 2 * o + 3 ∧ 13 * (z 3 + 1) ≤ ak_st b n (z 0 + 1) + 13 * o + 14 ∧ 6 * z 4 ≤ ak_st b n (z 0 + 1) + 1 by omega) (show m ≤ z 0 + 1 + t by omega) (show z 2 < z 2 + 1 by omega) (fun DE zE xa hcE hmE IE lE rE eE dE sE goE => ?_) (fun hcx xa hmx wr goE => ?_))
  · have leE := ak_ext_le eE
    have leE1 : z 1 + 1 ≤ zE 1 := leE.2.1
    have leE2 : z 2 + 1 ≤ zE 2 := leE.2.2.1
    have leE3 : z 3 + 1 ≤ zE 3 := leE.2.2.2.1
    have leE4 : z 4 ≤ zE 4 := leE.2.2.2.2.1
    have leE5 : z 5 ≤ zE 5 := leE.2.2.2.2.2.1
    have lE' : z 0 + 1 < zE 0 := lE
    have rE' : 2 * zE 1 + 6 + 3 * ak_st b n (z 0 + 1) + z 5 ≤ 2 * (z 1 + 1) + 3 * ak_st b n (zE 0) + zE 5 ∧ zE 2 + 2 + ak_st b n (z 0 + 1) ≤ z 2 + 1 + ak_st b n (zE 0) ∧ 13 * zE 3 + 2 + ak_st b n (z 0 + 1) ≤ 13 * (z 3 + 1) + ak_st b n (zE 0) ∧ 6 * zE 4 + 2 + ak_st b n (z 0 + 1) ≤ 6 * z 4 + ak_st b n (zE 0) := rE
    have hsE := (ak_st_n IE).1
    have zE5 := (ak_st_n IE).2.2.2
    have ndE := ak_nd_115 (v := xa) (ak_nd_ext eE (show z 2 < z 2 + 1 by omega) n4)
    have e0E := ak_ext_cell (ak_ext_trans e04 eE) (q := 115) (k := 9000 * p + z 2) (v := xa) (by decide) (Nat.le_refl _) (by omega)
    have I6 := ak_PI_put hu IE (r := 37) (x := (z 3 : Int))
    have e6 := ak_ext_put (p := p) (z := zE) (hc := hcE) (hm := (am_up hmE.1 115 (9000 * p + z 2) xa, hmE.2)) (r := 37) (x := (z 3 : Int)) hu
    have e06 := ak_ext_trans e0E e6
    have s6 := ak_sub_ext sE e6
    have aE6 := (ak_ext_trans eE (ak_ext_put (p := p) (z := zE) (hc := hcE) (hm := hmE) (r := 37) (x := (z 3 : Int)) hu)).2.1
    have hkC := I6.1.2.2.2.2.1
    have tk6 : (am_up hmE.1 115 (9000 * p + z 2) xa) 110 33 = ak_kd b n (ak_st b n (zE 0)) := I6.2.1.2.2.1
    have hf6 := I6.2.2.1
    have G6 : ak_GH u z (zE 1) (zE 4) (ak_put hcE u (zE 1) 37 (z 3 : Int)) := by
      refine ⟨(aE6.1 _ (Nat.zero_le _) (show z 1 < z 1 + 1 by omega)).1.trans ak_put_2, (aE6.1 _ (Nat.zero_le _) (show z 1 < z 1 + 1 by omega)).2.trans ak_put_3, ak_put_2, ak_put_3, (aE6.2.1 _ (Nat.zero_le _) (show z 3 < z 3 + 1 by omega)).1.trans v4, (aE6.2.1 _ (Nat.zero_le _) (show z 3 < z 3 + 1 by omega)).2.1.trans v5, fun j h1 h2 => ?_⟩
      have h3 : ((z 3 + 1 : Nat) : Int) ≤ hcE.1 (ak_T u + 10) j := (eE.2.2.1 j h1 h2).1
      rw [show (ak_put hcE u (zE 1) 37 (z 3 : Int)).1 (ak_T u + 10) j = hcE.1 (ak_T u + 10) j by simp [ak_put, am_up]]
      omega
    have go : (ak_kd b n (ak_st b n (zE 0)) = 210 ∨ ak_kd b n (ak_st b n (zE 0)) = 211) → ak_W0 e 0 (d + 20 * (20 - o) + 23) 32 [ρ0, ak_T u, ak_T u + 1, ρ3, ρ4] 78 [some (am_r 2), some (am_i (o : Int)), some (am_i (z 3 : Int)), some (am_i 0)] [] (ak_put hcE u (zE 1) 37 (z 3 : Int)) (ak_qv (ak_KQ e ρ (d + 20 * (20 - o) + 25) u p b n m lv D o Mt z hc hm) (ak_XXs e ρ (d + 20 * (20 - o) + 25) 233 u p hc hm)) := by
      intro hk2
      refine loop (m + 1 - zE 0) DE (ak_zu zE 1 (zE 1 + 1)) (ak_zu zE 1 (zE 1 + 1)) (ak_zu (ak_zu (ak_zu (ak_zu z 0 (z 0 + 1)) 3 (z 3 + 1)) 1 (z 1 + 1)) 2 (z 2 + 1)) zE xa (-1) (-1) 0 _ _ 0 I6 (show z 0 < zE 0 by omega) (Or.inl rfl) ?_ e06 dE ⟨rfl, rfl, rfl, rfl, rfl⟩ ⟨rfl, rfl, rfl, rfl, rfl⟩ ⟨leE1, leE2, leE3, leE4, leE5⟩ ⟨Nat.le_refl _, Nat.le_refl _, Nat.le_refl _, Nat.le_refl _, Nat.le_refl _⟩ (Or.inl ⟨rfl, rfl, rfl, rfl⟩) s6 G6 ndE (fun _ => hk2) (show m + 1 ≤ zE 0 + (m + 1 - zE 0) by omega) (show 0 + 1 ≤ zE 0 by omega) (fun Q X g => run4 Q X (goE _ _ g))
      show 2 * (zE 1 + 1) + 4 + 3 * ak_st b n (z 0) + z 5 ≤ 2 * z 1 + 3 * ak_st b n (zE 0) + zE 5 ∧ zE 2 + ak_st b n (z 0) ≤ z 2 + ak_st b n (zE 0) ∧ 13 * zE 3 + ak_st b n (z 0) ≤ 13 * z 3 + ak_st b n (zE 0) + (if (0 : Int) = 0 then 6 else 0) ∧ 6 * zE 4 + 1 + ak_st b n (z 0) ≤ 6 * z 4 + ak_st b n (zE 0)
      rw [if_pos rfl]
      omega
    refine am_s3 hu IE.2.2.2.2.2.2.2.2.1 (show zE 1 < 9600 by omega) ?_
    rw [hkC]
    refine ⟨fun k210 => am_s10 hu (fun _ => go (Or.inl k210)) (fun q => absurd q (by decide)), fun n210 => ⟨fun n211 => am_s10 hu (fun q => absurd rfl q) (fun _ => ?_), fun k211 => am_s10 hu (fun _ => go (Or.inr k211)) (fun q => absurd q (by decide))⟩⟩
    have wr := ak_WR_z I6 (show zE 2 ≤ 6130 by omega)
    exact ⟨rfl, ((9000 * p + z 2 : Nat) : Int), _, ak_WR_s (ak_WR_ext w I6 (Nat.le_refl _) e06 wr), fun Q X g => run4 Q X (goE _ _ (am_k234_27 (am_s208 (fun _ q => absurd (tk6.symm.trans q) n210) (fun _ => ⟨fun _ => am_s208 (fun _ q => absurd (tk6.symm.trans q) n211) (fun _ => ⟨fun _ => ⟨fun q => absurd rfl q, fun _ => am_s207 (fun _ => g) (fun q => absurd q (Int.not_le.mpr hf6))⟩, fun q => absurd rfl q⟩), fun q => absurd rfl q⟩))))⟩
  · have wr1 := ak_WR_ext w I4 (Nat.le_refl _) e04 wr
    exact ⟨rfl, ((9000 * p + z 2 : Nat) : Int), _, ak_WR_s wr1, fun Q X g => run4 Q X (goE _ _ (am_k234_27 (am_w208 wr1.1 ⟨fun _ => am_w208 wr1.1 ⟨fun _ => ⟨fun q => absurd rfl q, fun _ => am_w207 wr1.1 g⟩, fun q => absurd rfl q⟩, fun q => absurd rfl q⟩)))⟩
end GD2
