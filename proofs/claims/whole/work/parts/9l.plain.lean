/-! an expression, or = , as a statement -/
section LKPLAIN
variable {e : ak_X3} {d dd dm u p a : Nat} {b : Nat → Int} {n m lv o Mt : Nat} {D : Nat → Nat} {z : Nat → Nat} {hc hm : ak_S} {ρ : List Nat}
theorem am_s129 {Q : Int → ak_S → Prop} {X : Nat → ak_S → Prop} (c : ak_cc b n m hc a) (ha : a < m) (w1 : ak_kd b n (ak_st b n (a + 1)) = 61 → Q 1 hc) (w0 : ak_kd b n (ak_st b n (a + 1)) ≠ 61 → Q 0 hc) : ak_MI e 0 (d + 1) ρ 129 [am_r 3] hc Q X := by
  obtain ⟨⟨c1, c2, c3, c4⟩, c5, c6, c7, -⟩ := c
  have t2 := (c5 (a + 1) (by omega)).2.1
  refine ak_MI_of (Nat.le_of_ble_eq_true rfl) (am_k129_0 ?_)
  rw [c6, c7, ak_wj (show a < 1000000 by omega), ak_natn, t2]
  exact ⟨fun q => absurd q (by omega), fun _ => ⟨by omega, fun q => ⟨Or.inl rfl, w0 q⟩, fun q => ⟨Or.inr rfl, w1 q⟩⟩⟩
theorem lk_exp_bad {ρ0 ρ3 ρ4 : Nat} {x1 : Int} {Q : ak_S → Prop} {X : Nat → ak_S → Prop} (hu : u = 0 ∨ u = 1) (sc : ak_scs b n hc hm lv D) (hk : hc.1 3 8 = 2) (no : ak_rs (ak_ff hc D (hc.2.1 3 10)) (lv + 1) = -1) (g : X 0 (ak_th hc)) : ak_MV e 0 (d + 9) [ρ0, ak_T u, ak_T u + 1, ρ3, ρ4] 34 [am_r 2, am_i x1] hc Q X := by
  refine ak_MV_of (Nat.le_of_ble_eq_true rfl) (am_k34_0 hu (ak_MV_of (Nat.le_of_ble_eq_true rfl) (am_k36_0 hu (ak_MV_of (Nat.le_of_ble_eq_true rfl) (am_k37_0 hu (ak_MV_of (Nat.le_of_ble_eq_true rfl) (am_k38_0 hu (am_k38_2 hu ⟨fun q => absurd q (by decide), fun _ => ⟨fun _ => ak_MV_of (Nat.le_of_ble_eq_true rfl) (am_k39_0 hu (ak_MV_of (Nat.le_of_ble_eq_true rfl) (am_k44_0 hu ?_))), fun q => absurd (hk.symm.trans q) (by decide)⟩⟩))))))))
  refine ⟨trivial, fun _ => ak_MV_of (Nat.le_of_ble_eq_true rfl) (am_k46_0 hu ?_), fun q => absurd (hk.symm.trans q) (by decide), fun q => absurd (hk.symm.trans q) (by decide), fun q => absurd (hk.symm.trans q) (by decide), fun q => absurd (hk.symm.trans q) (by decide), trivial⟩
  rw [hk]
  exact ⟨trivial, fun q => absurd rfl q.1, fun _ => am_s19 hu sc (fun _ => ⟨fun _ => am_s10 hu (fun q => absurd rfl q) (fun _ => g), fun q => absurd q (by decide)⟩) (fun s k hs _ _ _ => absurd (hs.symm.trans no) (by omega)), fun q => absurd q (by decide), fun q => absurd q (by decide), fun q => absurd q (by decide), fun q => absurd q (by decide), fun q => absurd q (by decide), trivial⟩
theorem lk_pexp {ρ0 ρ3 ρ4 t : Nat} {hmR : ak_S} (hu : u = 0 ∨ u = 1) (hE : ak_EX e u p b n m ρ0 ρ3 ρ4 ρ 34 222 13 13 t) (w : ak_PI u p b n m lv D o Mt z hc hm) (wR : ak_PI u p b n m lv D o Mt z hc hmR) (eR : ak_ext u p z z hc hm hc hmR) (pt : ak_POT b n o 1 z) (ht : m ≤ z 0 + t)
    (run : ∀ (Q : Int → ak_S → Prop) (X : Nat → ak_S → Prop), ak_W0 e 1 (d + 20 * (20 - o) + 24) 233 ρ 845 [some (am_r 110), some (am_i ((ak_st b n (z 0) : Nat) : Int)), none, none, none, none, none, none] [] hmR (ak_qi Q X) → ak_MI e 1 (d + 20 * (20 - o) + 25) ρ 233 [am_r 110] hm Q X) :
    ak_MV e 0 (d + 20 * (20 - o) + 23) [ρ0, ak_T u, ak_T u + 1, ρ3, ρ4] 34 [am_r 2, am_i (o : Int)] hc (fun h1 => ak_MI e 0 (d + 20 * (20 - o) + 23) [ρ0, ak_T u, ak_T u + 1, ρ3, ρ4] 3 [am_r (ak_T u + 1), am_i 28, am_i 0] h1 (fun _ h2 => ak_MV e 0 (d + 20 * (20 - o) + 23) [ρ0, ak_T u, ak_T u + 1, ρ3, ρ4] 11 [am_r 2, am_i 59] h2 (fun h4 => ak_KQ e ρ (d + 20 * (20 - o) + 25) u p b n m lv D o Mt z hc hm h4) (ak_XXs e ρ (d + 20 * (20 - o) + 25) 233 u p hc hm)) (fun _ _ => False)) (ak_XXs e ρ (d + 20 * (20 - o) + 25) 233 u p hc hm) := by
  have hp2 := w.2.1.1.2.1
  have rm := ak_room w (by decide) pt
  have n6 := (ak_st_n w).2.1
  have bv : 0 ≤ ((9000 * p + z 2 : Nat) : Int) ∧ ((9000 * p + z 2 : Nat) : Int) < 18000 := by omega
  have I1 := ak_PI_node hu wR (k := 22) (r := ((ak_st b n (z 0) : Nat) : Int))
  have e1 := ak_ext_trans eR (ak_ext_node (hc := hc) (hm := hmR) (p := p) (u := u) (k := 22) (r := ((ak_st b n (z 0) : Nat) : Int)) (show z 2 < 9000 by omega))
  have n1 : ak_nd (ak_node hmR p (z 2) 22 ((ak_st b n (z 0) : Nat) : Int)) (9000 * p + z 2) 22 (-1) (-1) (-1) (-1) (-1) ((ak_st b n (z 0) : Nat) : Int) := ak_nd_new
  have pt1 : ak_POT b n o 2 (ak_zu z 2 (z 2 + 1)) := by
    unfold ak_POT at pt ⊢
    show 2 * z 1 ≤ 3 * ak_st b n (z 0) + z 5 + 10 * o + 3 * 2 ∧ z 2 + 1 ≤ ak_st b n (z 0) + 2 * o + 2 ∧ 13 * z 3 ≤ ak_st b n (z 0) + 13 * o ∧ 6 * z 4 ≤ ak_st b n (z 0)
    omega
  have run1 : ∀ (Q : Int → ak_S → Prop) (X : Nat → ak_S → Prop), ak_MI e 1 (d + 20 * (20 - o) + 24) ρ 222 [am_r 110] (ak_node hmR p (z 2) 22 ((ak_st b n (z 0) : Nat) : Int)) (fun v3 h3 => ak_MV e 1 (d + 20 * (20 - o) + 24) ρ 209 [am_r 110, am_i 59] (am_up h3.1 115 (9000 * p + z 2) v3, h3.2) (fun h4 => Q ((9000 * p + z 2 : Nat) : Int) h4) (fun _ _ => False)) (fun _ _ => False) → ak_MI e 1 (d + 20 * (20 - o) + 25) ρ 233 [am_r 110] hm Q X := by
    intro Q X g
    refine run Q X (am_k233_845 (am_s212 wR.2.1.1.1 hp2 wR.2.2.2.2.2.2.2.2.2.1 (show z 2 < 9000 by omega) ?_))
    show ak_MI e 1 (d + 20 * (20 - o) + 24) ρ 222 [am_r 110] (ak_node hmR p (z 2) 22 ((ak_st b n (z 0) : Nat) : Int)) _ _
    refine ak_MI_imp g (fun v3 h3 g2 => ⟨bv, ?_⟩) (fun _ _ q => q)
    rw [ak_natn]
    exact g2
  refine lk_ecell (q := 115) (y := z 2) (dd := d + 20 * (20 - o) + 23) hu (by decide) (by omega) hE I1 pt1 (show m ≤ z 0 + t by omega) (show z 2 < z 2 + 1 by omega) (fun z3 x hc3 hm3 I3 l3 r3 pt3 rm3 e3 s3 go3 => ?_) (fun hcx x hmx wr go3 => ?_)
  · have le3 := ak_ext_le e3
    have le31 : z 1 ≤ z3 1 := le3.2.1
    have le32 : z 2 + 1 ≤ z3 2 := le3.2.2.1
    have le34 : z 4 ≤ z3 4 := le3.2.2.2.2.1
    have l3' : z 0 < z3 0 := l3
    have r3' : 2 * z3 1 + 1 + 3 * ak_st b n (z 0) + z 5 ≤ 2 * z 1 + 3 * ak_st b n (z3 0) + z3 5 ∧ z3 2 + ak_st b n (z 0) ≤ z 2 + 1 + ak_st b n (z3 0) ∧ 13 * z3 3 + ak_st b n (z 0) ≤ 13 * z 3 + ak_st b n (z3 0) ∧ 6 * z3 4 + ak_st b n (z 0) ≤ 6 * z 4 + ak_st b n (z3 0) := r3
    have n3 := ak_nd_115 (v := x) (ak_nd_ext e3 (show z 2 < z 2 + 1 by omega) n1)
    have e03 := ak_ext_cell (ak_ext_trans e1 e3) (q := 115) (k := 9000 * p + z 2) (v := x) (by decide) (Nat.le_refl _) (by omega)
    have I4 := ak_PI_put hu I3 (r := 28) (x := 0)
    have e4 := ak_ext_put (p := p) (z := z3) (hc := hc3) (hm := (am_up hm3.1 115 (9000 * p + z 2) x, hm3.2)) (r := 28) (x := 0) hu
    have e04 := ak_ext_trans e03 e4
    refine am_s3 hu I3.2.2.2.2.2.2.2.2.1 (show z3 1 < 9600 by omega) (lk_pass2 (dm := d + 20 * (20 - o) + 20) (ρ := ρ) hu (by decide) I4 (show z3 2 ≤ 6130 by omega) (fun hc5 hm5 _ I5 e5 su5 ps5 => ?_) (fun wr ps5 => ?_))
    · have su5' : ak_st b n (z3 0) + 1 ≤ ak_st b n (z3 0 + 1) := su5
      have nF := ak_nd_ext e5 (show z 2 < z3 2 by omega) (ak_nd_ext e4 (show z 2 < z3 2 by omega) n3)
      have sF := ak_sub_ext s3 (ak_ext_trans e4 e5)
      have u28 := ak_od_ext (c := z3 1) e5 (Nat.lt_succ_self _) (ak_put_2 (hc := hc3) (u := u) (c := z3 1) (r := 28) (v := 0))
      refine ⟨D, _, z 2, _, ⟨I5, show z 0 < z3 0 + 1 by omega, ?_, ak_ext_trans e04 e5, fun _ _ => rfl, Nat.le_refl _, show z 2 < z3 2 by omega, nF.2.2.2.2.2.1, nF.2.2.2.2.2.2, fun C M ft => ?_⟩, fun Q X g => run1 Q X (go3 _ _ (ps5 _ _ g))⟩
      · show 2 * (z3 1 + 1) + 2 + 3 * ak_st b n (z 0) + z 5 ≤ 2 * z 1 + 3 * ak_st b n (z3 0 + 1) + z3 5 ∧ z3 2 + ak_st b n (z 0) ≤ z 2 + ak_st b n (z3 0 + 1) ∧ 13 * z3 3 + ak_st b n (z 0) ≤ 13 * z 3 + ak_st b n (z3 0 + 1) ∧ 6 * z3 4 + ak_st b n (z 0) ≤ 6 * z 4 + ak_st b n (z3 0 + 1)
        omega
      · have tA := ak_sub_T sF ft (show z 1 ≤ z 1 ∧ z 2 ≤ z 2 + 1 ∧ z 3 ≤ z 3 ∧ z 4 ≤ z 4 ∧ z 5 ≤ z 5 by omega) le34 (Or.inl (show ((9000 * p + z 2 : Nat) : Int) < ((9000 * p + (z 2 + 1) : Nat) : Int) by omega))
        obtain ⟨m1, m2, m3, m4, m5, m6⟩ := ak_nd_M nF ft (Nat.le_refl _) (show z 2 < z3 2 by omega)
        have c1 := ft.1.1 (z3 1) le31 (Nat.lt_succ_self _)
        have tA' : ak_X0 C M (ak_T u) p (ak_hx 222 o) (z3 2 - (z 2 + 1)) x (ak_lt Mt lv) (z 1) (z3 1) := tA
        intro Gd i hG hG2 hi
        have hi' : z3 2 - z 2 + 21 ≤ i + o := hi
        have ho := (ak_st_n w).2.2.1
        rw [← m2] at tA'
        exact ak_T3_fold ⟨_, rfl, Or.inr (Or.inr (Or.inl ⟨m1, z3 1, ak_RX_mk tA' (ak_lt_lt w) ak_hx_150 (by omega), c1.1.trans u28, rfl⟩))⟩
    · exact ⟨rfl, ((9000 * p + z 2 : Nat) : Int), _, ak_WR_s (ak_WR_ext w I4 (Nat.le_refl _) e04 wr), fun Q X g => run1 Q X (go3 _ _ (ps5 _ _ g))⟩
  · exact ⟨rfl, ((9000 * p + z 2 : Nat) : Int), _, ak_WR_s (ak_WR_ext w I1 (Nat.le_refl _) e1 wr), fun Q X g => run1 Q X (go3 _ _ (am_s209w wr.1 g))⟩
/-- read on and back again: nothing has changed -/
theorem ak_PI_back (hu : u = 0 ∨ u = 1) {h1 : ak_S} (w : ak_PI u p b n m lv D o Mt z hc hm) (hk : ak_kd b n (ak_st b n (z 0)) = 2) (f : ∀ q k, ¬ (q = 110 ∧ ((32 ≤ k ∧ k ≤ 36) ∨ (43 ≤ k ∧ k ≤ 45))) → h1.1 q k = hm.1 q k) (f32 : h1.1 110 32 = hm.1 110 32) (f33 : h1.1 110 33 = hm.1 110 33) (f34 : h1.1 110 34 = hm.1 110 34) (f35 : h1.1 110 35 = hm.1 110 35) (f2 : h1.2 = hm.2) :
    ak_PI u p b n m lv D o Mt z hc h1 ∧ ak_ext u p z z hc hm hc h1 := by
  have hT := ak_T_in hu
  obtain ⟨hin, hl, wd, -⟩ := ak_kd_word hk
  obtain ⟨w1, w2, w3, w4, w5, w6, w7, w8, w9, w10, w11, w12, w13, w14, w15, w16⟩ := w
  obtain ⟨⟨m1, m2, m3, m4, m5, m6⟩, c1, c2, c3, c4, c5⟩ := w2
  refine ⟨⟨w1, ⟨⟨?_, m2, ?_, m4, fun k hk => ?_, fun k hk => ?_⟩, f32.trans c1, f33.trans c2, f34.trans c3, f35.trans c4, fun g1 g2 g3 => ?_⟩, ?_, ?_, ak_scs_fr w5 rfl (fun _ => rfl) (fun _ => rfl) (f _ _ (by omega)) (fun q k h1 h2 => f _ _ (by omega)),
    ak_nms_fr w6 rfl (fun _ => rfl) (f _ _ (by omega)) (fun k => f _ _ (by omega)) (fun k => f _ _ (by omega)), ak_sts_fr w7 (Nat.le_refl _) rfl (fun _ _ _ _ => rfl) (fun q k h1 h2 => f _ _ (by omega)), ak_mths_fr w8 rfl (fun _ => rfl) (fun q k h1 h2 => f _ _ (by omega)), w9, ?_, w11, w12, w13, ?_, w15, w16⟩, ?_⟩
  · rw [f _ _ (by omega)]; exact m1
  · rw [f _ _ (by omega)]; exact m3
  · rw [f _ _ (by omega)]; exact m5 k hk
  · rw [f _ _ (by omega)]; exact m6 k hk
  · exfalso
    unfold ak_lB at hl
    unfold ak_dB at g2
    simp only [Bool.and_eq_true, decide_eq_true_eq] at hl g2
    omega
  · rw [f _ _ (by omega)]; exact w3
  · rw [f _ _ (by omega)]; exact w4
  · rw [f _ _ (by omega)]; exact w10
  · rw [f _ _ (by omega)]; exact w14
  · refine ak_ext_of (fun _ _ => Nat.le_refl _) (fun q k _ _ _ _ _ _ _ => rfl) (fun q k h1 h2 _ _ _ _ => f _ _ (by omega)) (fun j h1 h2 => absurd h2 (by omega)) ak_pC_refl ⟨fun q k h => f q k (fun g => h (Or.inl ⟨g.1, by omega⟩)), congrArg (fun y => y.1) f2⟩ rfl rfl (congrArg (fun y => y.2) f2)
theorem lk_plain {ρ0 ρ3 ρ4 t : Nat} (hu : u = 0 ∨ u = 1) (hE : ak_EX e u p b n m ρ0 ρ3 ρ4 ρ 34 222 13 13 t) (w : ak_PI u p b n m lv D o Mt z hc hm) (pt : ak_POT b n o 1 z) (ht : m ≤ z 0 + t) (hk : ∀ k : Int, 201 ≤ k → k ≤ 217 → k ≠ 203 → k ≠ 210 → k ≠ 211 → ak_kd b n (ak_st b n (z 0)) ≠ k) :
    ak_MV e 0 (d + 20 * (20 - o) + 24) [ρ0, ak_T u, ak_T u + 1, ρ3, ρ4] 24 [am_r 2, am_i (o : Int)] hc (ak_KQ e ρ (d + 20 * (20 - o) + 25) u p b n m lv D o Mt z hc hm) (ak_XXs e ρ (d + 20 * (20 - o) + 25) 233 u p hc hm) := by
  have tk := w.2.1.2.2.1
  have hkC := w.1.2.2.2.2.1
  have p34 := w.2.1.2.2.2.1
  have hp := w.2.1.1.1
  have hp2 := w.2.1.1.2.1
  have hf := w.2.2.1
  have sc := w.2.2.2.2.1
  have lv20 := sc.2.1
  have rm := ak_room w (by decide) pt
  have n6 := (ak_st_n w).2.1
  have o20 := (ak_st_n w).2.2.1
  have hst := (ak_st_n w).1
  have bv : 0 ≤ ((9000 * p + z 2 : Nat) : Int) ∧ ((9000 * p + z 2 : Nat) : Int) < 18000 := by omega
  have pt' := pt
  unfold ak_POT at pt'
  have run : ∀ (Q : Int → ak_S → Prop) (X : Nat → ak_S → Prop), ak_W0 e 1 (d + 20 * (20 - o) + 24) 233 ρ 711 [some (am_r 110), some (am_i ((ak_st b n (z 0) : Nat) : Int)), none, none, none, none, none, none] [] hm (ak_qi Q X) → ak_MI e 1 (d + 20 * (20 - o) + 25) ρ 233 [am_r 110] hm Q X := by
    intro Q X g
    rw [← p34] at g
    exact am_p233_0 (fun k h1 h2 h3 h4 h5 q => hk k h1 h2 h3 h4 h5 (tk.symm.trans q)) g
  by_cases k2 : ak_kd b n (ak_st b n (z 0)) = 2
  · obtain ⟨hin, hl, wd, hv⟩ := ak_kd_word k2
    have tk2 : hm.1 110 33 = 2 := tk.trans k2
    have ham : z 0 < m := ak_cc_lt w.1 (by omega)
    have v10 : hc.2.1 3 10 = ak_pk b (ak_st b n (z 0)) (ak_nx b n (ak_st b n (z 0)) - ak_st b n (z 0)) := by
      rw [w.1.2.2.2.2.2.2]
      exact hv _ (w.1.2.1 (z 0) w.1.1.1).2.2
    obtain ⟨h1, H1, go1⟩ := ak_MV_get (e := e) (r := 1) (d := d + 20 * (20 - o) + 24) (ρ := ρ) (am_s217 (d := d + 20 * (20 - o) + 20) (X := ak_F) (Q := fun h' => (ak_rs (ak_ff hc D (ak_pk b (ak_st b n (z 0)) (ak_nx b n (ak_st b n (z 0)) - ak_st b n (z 0)))) (lv + 1) = -1 ∧ h' = ak_wr hm) ∨
        ∃ s k : Nat, ak_rs (ak_ff hc D (ak_pk b (ak_st b n (z 0)) (ak_nx b n (ak_st b n (z 0)) - ak_st b n (z 0)))) (lv + 1) = (s : Int) ∧ s ≤ lv ∧ ak_ff hc D (ak_pk b (ak_st b n (z 0)) (ak_nx b n (ak_st b n (z 0)) - ak_st b n (z 0))) s = (k : Int) ∧ k < 12 ∧ h' = (am_up (am_up hm.1 110 43 ((lv - s : Nat) : Int)) 110 44 (k : Int), hm.2))
      sc w.2.1.1 hf tk2 p34 w.2.1.2.2.2.2.1 wd (fun no => Or.inl ⟨no, rfl⟩) (fun s k g1 g2 g3 g4 => Or.inr ⟨s, k, g1, g2, g3, g4, rfl⟩))
    rcases H1 with ⟨no, rfl⟩ | ⟨s, k, hs, hsl, hff, hk12, rfl⟩
    · -- not declared
      have W := ak_WR_z w (show z 2 ≤ 6130 by omega)
      have fin : ak_XXs e ρ (d + 20 * (20 - o) + 25) 233 u p hc hm 0 (ak_th hc) := ⟨rfl, -1, ak_wr hm, ak_WR_s W, fun Q X g => run Q X (am_k233_711 ⟨fun q => absurd tk2 q, fun _ => go1 _ _ (am_w206 W.1 ⟨fun q => absurd q (by decide), fun _ => g⟩)⟩)⟩
      refine ak_MV_of (Nat.le_of_ble_eq_true rfl) (am_k24_0 hu ⟨fun q => absurd (hkC.trans k2) q, fun _ => am_s129 w.1 ham (fun _ => ⟨fun q => absurd q (by decide), fun _ => am_s19 (d := d + 20 * (20 - o) + 21) hu sc (fun _ => ⟨fun _ => am_k24_42 hu (am_s10 hu (fun q => absurd rfl q) (fun _ => fin)), fun q => absurd q (by decide)⟩) (fun s k hs _ _ _ => ?_)⟩) (fun _ => ⟨fun _ => lk_exp_bad (d := d + 20 * (20 - o) + 14) hu sc (hkC.trans k2) (by rw [v10]; exact no) fin, fun q => absurd rfl q⟩)⟩)
      rw [v10] at hs
      exact absurd (hs.symm.trans no) (by omega)
    · have w1 := ak_PI_cell hu (ak_PI_cell hu w (q := 110) (k := 43) (v := ((lv - s : Nat) : Int)) (Or.inr (by decide))) (q := 110) (k := 44) (v := (k : Int)) (Or.inr (by decide))
      have e1 : ak_ext u p z z hc hm hc (am_up (am_up hm.1 110 43 ((lv - s : Nat) : Int)) 110 44 (k : Int), hm.2) := ak_ext_note (ak_ext_note ak_ext_refl (k := 43) (v := ((lv - s : Nat) : Int)) (by decide)) (k := 44) (v := (k : Int)) (by decide)
      have h43 : am_up (am_up hm.1 110 43 ((lv - s : Nat) : Int)) 110 44 (k : Int) 110 43 = ((lv - s : Nat) : Int) := by simp [am_up]
      have h44 : am_up (am_up hm.1 110 43 ((lv - s : Nat) : Int)) 110 44 (k : Int) 110 44 = (k : Int) := by simp [am_up]
      obtain ⟨h2, ⟨M2, fr2⟩, rd2⟩ := ak_MV_get (e := e) (r := 1) (d := d + 20 * (20 - o) + 24) (ρ := ρ) (am_rd (d := d + 20 * (20 - o) + 21) (X := ak_F) w1.2.1 hst (fun h' c f => (⟨c, f⟩ : ak_cm b n p h' (z 0 + 1) ∧ ak_rfr (am_up (am_up hm.1 110 43 ((lv - s : Nat) : Int)) 110 44 (k : Int), hm.2) h')))
      have tk1 := M2.2.2.1
      have run2 : ∀ (Q : Int → ak_S → Prop) (X : Nat → ak_S → Prop), (h2.1 110 33 ≠ 61 →
              ak_W0 e 1 (d + 20 * (20 - o) + 24) 233 ρ 845 [some (am_r 110), some (am_i ((ak_st b n (z 0) : Nat) : Int)), none, none, none, none, none, none] [] (am_up (am_up (am_up (am_up h2.1 110 32 (hm.1 110 32)) 110 33 2) 110 34 (hm.1 110 34)) 110 35 (hm.1 110 35), h2.2) (ak_qi Q X))
            ∧ (h2.1 110 33 = 61 →
              ak_MV e 1 (d + 20 * (20 - o) + 24) ρ 205 [am_r 110] h2 (fun h5 =>
                ak_MI e 1 (d + 20 * (20 - o) + 24) ρ 212 [am_r 110, am_i 21, am_i ((ak_st b n (z 0) : Nat) : Int)] h5 (fun v7 h6 =>
                  ak_MI e 1 (d + 20 * (20 - o) + 24) ρ 222 [am_r 110] h6 (fun v9 h8 =>
                    (0 ≤ v7 ∧ v7 < (18000 : Int)) ∧ (0 ≤ v7 ∧ v7 < (18000 : Int)) ∧ (0 ≤ v7 ∧ v7 < (18000 : Int)) ∧ ak_MV e 1 (d + 20 * (20 - o) + 24) ρ 209 [am_r 110, am_i 59] (am_up (am_up (am_up h8.1 115 v7.toNat v9) 116 v7.toNat ((lv - s : Nat) : Int)) 117 v7.toNat (k : Int), h8.2) (fun h10 =>
                      Q v7 h10) (fun _ _ => False)) (fun _ _ => False)) (fun _ _ => False)) (fun _ _ => False)) → ak_MI e 1 (d + 20 * (20 - o) + 25) ρ 233 [am_r 110] hm Q X := by
        intro Q X g
        refine run Q X (am_k233_711 ⟨fun q => absurd tk2 q, fun _ => go1 _ _ (am_s206 (fun _ => ⟨fun _ => rd2 _ _ ?_, fun q => absurd rfl q⟩) (fun q => absurd q (Int.not_le.mpr w1.2.2.1)))⟩)
        dsimp only
        rw [h43, h44]
        exact g
      refine ak_MV_of (Nat.le_of_ble_eq_true rfl) (am_k24_0 hu ⟨fun q => absurd (hkC.trans k2) q, fun _ => am_s129 w.1 ham (fun k61 => ⟨fun q => absurd q (by decide), fun _ => am_s19 (d := d + 20 * (20 - o) + 21) hu sc (fun no => ?_) (fun s' k' hs' hsl' hff' hk' => ?_)⟩) (fun n61 => ⟨fun _ => ?_, fun q => absurd rfl q⟩)⟩)
      · rw [v10] at no
        exact absurd (hs.symm.trans no) (by omega)
      · rw [v10] at hs' hff'
        have es : s' = s := by
          have := hs'.symm.trans hs
          omega
        subst es
        have ek : k' = k := by
          have := hff'.symm.trans hff
          omega
        subst ek
        refine ⟨fun q => absurd q (by omega), fun _ => am_k24_42 hu (am_s10 hu (fun _ => am_adv w.1 ham (fun hc2 C2 fr => ?_)) (fun q => absurd q (by decide)))⟩
        have I2 := ak_PI_step hu w1 C2 fr M2 fr2
        have e2 := ak_ext_trans e1 (ak_ext_step (p := p) (z := z) hu fr fr2)
        have su2 := ak_st_up w.1 ham
        have hs2 := (ak_st_n I2).1
        refine am_s11 hu C2 (by decide) (fun _ hc3 C3 fr3 => ?_) (fun q => absurd k61 q)
        obtain ⟨hm3, ⟨M3, frm3⟩, rd3⟩ := ak_MV_get (e := e) (r := 1) (d := d + 20 * (20 - o) + 24) (ρ := ρ) (am_rd (d := d + 20 * (20 - o) + 21) (X := ak_F) I2.2.1 hs2 (fun h' c f => (⟨c, f⟩ : ak_cm b n p h' (z 0 + 1 + 1) ∧ ak_rfr h2 h')))
        have I3 := ak_PI_step hu I2 C3 fr3 M3 frm3
        have e3 := ak_ext_step (p := p) (z := ak_zu z 0 (z 0 + 1)) hu fr3 frm3
        have e03 := ak_ext_trans e2 e3
        have su3 : ak_st b n (z 0 + 1) + 1 ≤ ak_st b n (z 0 + 1 + 1) := ak_st_up I2.1 (ak_cc_lt I2.1 (by show ak_kd b n (ak_st b n (z 0 + 1)) ≠ 0; omega))
        have I4 := ak_PI_node hu I3 (k := 21) (r := ((ak_st b n (z 0) : Nat) : Int))
        have e04 := ak_ext_trans e03 (ak_ext_node (hc := hc3) (hm := hm3) (p := p) (u := u) (z := ak_zu (ak_zu z 0 (z 0 + 1)) 0 (z 0 + 1 + 1)) (k := 21) (r := ((ak_st b n (z 0) : Nat) : Int)) (show z 2 < 9000 by omega))
        have n4 : ak_nd (ak_node hm3 p (z 2) 21 ((ak_st b n (z 0) : Nat) : Int)) (9000 * p + z 2) 21 (-1) (-1) (-1) (-1) (-1) ((ak_st b n (z 0) : Nat) : Int) := ak_nd_new
        have pt4 : ak_POT b n o 2 (ak_zu (ak_zu (ak_zu z 0 (z 0 + 1)) 0 (z 0 + 1 + 1)) 2 (z 2 + 1)) := by
          unfold ak_POT
          show 2 * z 1 ≤ 3 * ak_st b n (z 0 + 1 + 1) + z 5 + 10 * o + 3 * 2 ∧ z 2 + 1 ≤ ak_st b n (z 0 + 1 + 1) + 2 * o + 2 ∧ 13 * z 3 ≤ ak_st b n (z 0 + 1 + 1) + 13 * o ∧ 6 * z 4 ≤ ak_st b n (z 0 + 1 + 1)
          omega
        have run3 : ∀ (Q : Int → ak_S → Prop) (X : Nat → ak_S → Prop), ak_MI e 1 (d + 20 * (20 - o) + 24) ρ 222 [am_r 110] (ak_node hm3 p (z 2) 21 ((ak_st b n (z 0) : Nat) : Int)) (fun v9 h8 =>
                    ak_MV e 1 (d + 20 * (20 - o) + 24) ρ 209 [am_r 110, am_i 59] (am_up (am_up (am_up h8.1 115 (9000 * p + z 2) v9) 116 (9000 * p + z 2) ((lv - s' : Nat) : Int)) 117 (9000 * p + z 2) (k' : Int), h8.2) (fun h10 =>
                      Q ((9000 * p + z 2 : Nat) : Int) h10) (fun _ _ => False)) (fun _ _ => False) → ak_MI e 1 (d + 20 * (20 - o) + 25) ρ 233 [am_r 110] hm Q X := by
          intro Q X g
          refine run2 Q X ⟨fun q => absurd (tk1.trans k61) q, fun _ => rd3 _ _ (am_s212 I3.2.1.1.1 hp2 I3.2.2.2.2.2.2.2.2.2.1 (show z 2 < 9000 by omega) ?_)⟩
          show ak_MI e 1 (d + 20 * (20 - o) + 24) ρ 222 [am_r 110] (ak_node hm3 p (z 2) 21 ((ak_st b n (z 0) : Nat) : Int)) _ _
          refine ak_MI_imp g (fun v9 h8 g2 => ⟨bv, bv, bv, ?_⟩) (fun _ _ q => q)
          rw [ak_natn]
          exact g2
        refine lk_ecell (q := 115) (y := z 2) (dd := d + 20 * (20 - o) + 23) hu (by decide) (by omega) hE I4 pt4 (show m ≤ z 0 + 1 + 1 + t by omega) (show z 2 < z 2 + 1 by omega) (fun z5 x hc5 hm5 I5 l5 r5 pt5 rm5 e5 s5 go5 => ?_) (fun hcx x hmx wr go5 => ?_)
        · have le5 := ak_ext_le e5
          have le52 : z 2 + 1 ≤ z5 2 := le5.2.2.1
          have le51 : z 1 ≤ z5 1 := le5.2.1
          have le54 : z 4 ≤ z5 4 := le5.2.2.2.2.1
          have l5' : z 0 + 1 + 1 < z5 0 := l5
          have r5' : 2 * z5 1 + 1 + 3 * ak_st b n (z 0 + 1 + 1) + z 5 ≤ 2 * z 1 + 3 * ak_st b n (z5 0) + z5 5 ∧ z5 2 + ak_st b n (z 0 + 1 + 1) ≤ z 2 + 1 + ak_st b n (z5 0) ∧ 13 * z5 3 + ak_st b n (z 0 + 1 + 1) ≤ 13 * z 3 + ak_st b n (z5 0) ∧ 6 * z5 4 + ak_st b n (z 0 + 1 + 1) ≤ 6 * z 4 + ak_st b n (z5 0) := r5
          have n5 := ak_nd_117 (v := (k' : Int)) (ak_nd_116 (v := ((lv - s' : Nat) : Int)) (ak_nd_115 (v := x) (ak_nd_ext e5 (show z 2 < z 2 + 1 by omega) n4)))
          have I6 := ak_PI_cell hu (ak_PI_cell hu I5 (q := 116) (k := 9000 * p + z 2) (v := ((lv - s' : Nat) : Int)) (Or.inl (by decide))) (q := 117) (k := 9000 * p + z 2) (v := (k' : Int)) (Or.inl (by decide))
          have e06 := ak_ext_cell (ak_ext_cell (ak_ext_cell (ak_ext_trans e04 e5) (q := 115) (k := 9000 * p + z 2) (v := x) (by decide) (Nat.le_refl _) (by omega)) (q := 116) (k := 9000 * p + z 2) (v := ((lv - s' : Nat) : Int)) (by decide) (Nat.le_refl _) (by omega)) (q := 117) (k := 9000 * p + z 2) (v := (k' : Int)) (by decide) (Nat.le_refl _) (by omega)
          have s6 := ak_sub_cell (ak_sub_cell s5 (q := 116) (j := 9000 * p + z 2) (v := ((lv - s' : Nat) : Int)) (by decide) (Or.inl (show 9000 * p + z 2 < 9000 * p + (z 2 + 1) by omega))) (q := 117) (j := 9000 * p + z 2) (v := (k' : Int)) (by decide) (Or.inl (show 9000 * p + z 2 < 9000 * p + (z 2 + 1) by omega))
          have IP := ak_PI_put hu I6 (r := 27) (x := (((lv - s') * 16 + k' : Nat) : Int))
          have eP := ak_ext_put (p := p) (z := z5) (hc := hc5) (hm := (am_up (am_up (am_up hm5.1 115 (9000 * p + z 2) x) 116 (9000 * p + z 2) ((lv - s' : Nat) : Int)) 117 (9000 * p + z 2) (k' : Int), hm5.2)) (r := 27) (x := (((lv - s') * 16 + k' : Nat) : Int)) hu
          have e0P := ak_ext_trans e06 eP
          refine am_s3 hu I5.2.2.2.2.2.2.2.2.1 (show z5 1 < 9600 by omega) (lk_pass2 (dm := d + 20 * (20 - o) + 20) (ρ := ρ) hu (by decide) IP (show z5 2 ≤ 6130 by omega) (fun hc7 hm7 _ I7 e7 su7 ps7 => ?_) (fun wr ps7 => ?_))
          · have su7' : ak_st b n (z5 0) + 1 ≤ ak_st b n (z5 0 + 1) := su7
            have nF := ak_nd_ext e7 (show z 2 < z5 2 by omega) (ak_nd_ext eP (show z 2 < z5 2 by omega) n5)
            have sF := ak_sub_ext s6 (ak_ext_trans eP e7)
            have u27 := ak_od_ext (c := z5 1) e7 (Nat.lt_succ_self _) (ak_put_2 (hc := hc5) (u := u) (c := z5 1) (r := 27) (v := (((lv - s') * 16 + k' : Nat) : Int)))
            have w27 := ak_oa_ext (c := z5 1) e7 (Nat.lt_succ_self _) (ak_put_3 (hc := hc5) (u := u) (c := z5 1) (r := 27) (v := (((lv - s') * 16 + k' : Nat) : Int)))
            refine ⟨D, _, z 2, _, ⟨I7, show z 0 < z5 0 + 1 by omega, ?_, ak_ext_trans e0P e7, fun _ _ => rfl, Nat.le_refl _, show z 2 < z5 2 by omega, nF.2.2.2.2.2.1, nF.2.2.2.2.2.2, fun C M ft => ?_⟩, fun Q X g => run3 Q X (go5 _ _ (ps7 _ _ g))⟩
            · show 2 * (z5 1 + 1) + 2 + 3 * ak_st b n (z 0) + z 5 ≤ 2 * z 1 + 3 * ak_st b n (z5 0 + 1) + z5 5 ∧ z5 2 + ak_st b n (z 0) ≤ z 2 + ak_st b n (z5 0 + 1) ∧ 13 * z5 3 + ak_st b n (z 0) ≤ 13 * z 3 + ak_st b n (z5 0 + 1) ∧ 6 * z5 4 + ak_st b n (z 0) ≤ 6 * z 4 + ak_st b n (z5 0 + 1)
              omega
            · have tA := ak_sub_T sF ft (show z 1 ≤ z 1 ∧ z 2 ≤ z 2 + 1 ∧ z 3 ≤ z 3 ∧ z 4 ≤ z 4 ∧ z 5 ≤ z 5 by omega) le54 (Or.inl (show ((9000 * p + z 2 : Nat) : Int) < ((9000 * p + (z 2 + 1) : Nat) : Int) by omega))
              obtain ⟨m1, m2, m3, m4, m5, m6⟩ := ak_nd_M nF ft (Nat.le_refl _) (show z 2 < z5 2 by omega)
              have c1 := ft.1.1 (z5 1) le51 (Nat.lt_succ_self _)
              have tA' : ak_X0 C M (ak_T u) p (ak_hx 222 o) (z5 2 - (z 2 + 1)) x (ak_lt Mt lv) (z 1) (z5 1) := tA
              intro Gd i hG hG2 hi
              have hi' : z5 2 - z 2 + 21 ≤ i + o := hi
              have ho := (ak_st_n w).2.2.1
              have o2 := c1.2.trans w27
              rw [← m2] at tA'
              refine ak_T3_fold ⟨_, rfl, Or.inr (Or.inl ⟨m1, z5 1, ak_RX_mk tA' (ak_lt_lt w) ak_hx_150 (by omega), c1.1.trans u27, ?_, by rw [m3]; omega, by rw [m3, ak_lt_lv w]; omega, by rw [m4]; omega, by rw [m4]; omega, rfl⟩)⟩
              rw [m3, m4, o2]
              omega
          · exact ⟨rfl, ((9000 * p + z 2 : Nat) : Int), _, ak_WR_s (ak_WR_ext w IP (Nat.le_refl _) e0P wr), fun Q X g => run3 Q X (go5 _ _ (ps7 _ _ g))⟩
        · have wr2 := ak_WR_cell (ak_WR_cell wr (q := 116) (k := 9000 * p + z 2) (v := ((lv - s' : Nat) : Int)) (by decide) (by omega) (by omega)) (q := 117) (k := 9000 * p + z 2) (v := (k' : Int)) (by decide) (by omega) (by omega)
          exact ⟨rfl, ((9000 * p + z 2 : Nat) : Int), _, ak_WR_s (ak_WR_ext w I4 (Nat.le_refl _) e04 wr2), fun Q X g => run3 Q X (go5 _ _ (am_s209w wr2.1 g))⟩
      · have fr36 : ∀ q k', ¬ (q = 110 ∧ ((32 ≤ k' ∧ k' ≤ 36) ∨ (43 ≤ k' ∧ k' ≤ 45))) → (am_up (am_up (am_up (am_up h2.1 110 32 (hm.1 110 32)) 110 33 2) 110 34 (hm.1 110 34)) 110 35 (hm.1 110 35)) q k' = hm.1 q k' := by
          intro q k' g
          rw [ak_up_out (by omega), ak_up_out (by omega), ak_up_out (by omega), ak_up_out (by omega), fr2.1 q k' (by omega)]
          exact (ak_up_out (by omega)).trans (ak_up_out (by omega))
        have B := ak_PI_back hu (h1 := (am_up (am_up (am_up (am_up h2.1 110 32 (hm.1 110 32)) 110 33 2) 110 34 (hm.1 110 34)) 110 35 (hm.1 110 35), h2.2)) w k2 fr36 (by simp [am_up]) (by rw [tk2]; simp [am_up]) (by simp [am_up]) (by simp [am_up]) fr2.2
        exact lk_pexp hu hE w B.1 B.2 pt ht (fun Q X g => run2 Q X ⟨fun _ => g, fun q => absurd (tk1.symm.trans q) n61⟩)
  · exact ak_MV_of (Nat.le_of_ble_eq_true rfl) (am_k24_0 hu ⟨fun _ => lk_pexp hu hE w w ak_ext_refl pt ht (fun Q X g => run Q X (am_k233_711 ⟨fun _ => g, fun q => absurd (tk.symm.trans q) k2⟩)), fun q => absurd (hkC.symm.trans q) k2⟩)
end LKPLAIN
