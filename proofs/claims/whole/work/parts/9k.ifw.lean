/-! if and while, both sides at once -/
def ak_whK (e : ak_X3) (dm : Nat) (ρ : List Nat) (p y : Nat) (Q : Int → ak_S → Prop) (h4 : ak_S) : Prop := ak_MI e 1 dm ρ 232 [am_r 110] h4 (fun v h => Q ((9000 * p + y : Nat) : Int) (am_up h.1 116 (9000 * p + y) v, h.2)) (fun _ _ => False)
def ak_ifK (e : ak_X3) (dm : Nat) (ρ : List Nat) (p y : Nat) (Q : Int → ak_S → Prop) (h4 : ak_S) : Prop := ak_MI e 1 dm ρ 232 [am_r 110] h4 (fun v22 h21 => ak_MI e 1 dm ρ 208 [am_r 110, am_i 203] (am_up h21.1 116 (9000 * p + y) v22, h21.2) (fun v24 h23 =>
  (v24 = 0 → Q ((9000 * p + y : Nat) : Int) h23) ∧ (v24 ≠ 0 → ak_MV e 1 dm ρ 205 [am_r 110] h23 (fun h25 => ak_MI e 1 dm ρ 232 [am_r 110] h25 (fun v27 h26 => Q ((9000 * p + y : Nat) : Int) (am_up h26.1 117 (9000 * p + y) v27, h26.2)) (fun _ _ => False)) (fun _ _ => False))) (fun _ _ => False)) (fun _ _ => False)
section LKIFW
variable {e : ak_X3} {d dd dm u p : Nat} {b : Nat → Int} {n m lv o Mt : Nat} {D : Nat → Nat} {z z' : Nat → Nat} {hc hm hcx hmx hc0 hm0 hc1 hm1 : ak_S} {ρ : List Nat}
/-- the first word read on, a node, an expression in it -/
theorem lk_nexp {ρ0 ρ3 ρ4 t : Nat} {nk : Int} {Q : ak_S → Prop} {X Y : Nat → ak_S → Prop} (hu : u = 0 ∨ u = 1) (hd : 20 * (20 - o) + 13 ≤ dd + 2) (hE : ak_EX e u p b n m ρ0 ρ3 ρ4 ρ 34 222 13 13 t) (w : ak_PI u p b n m lv D o Mt z hc hm) (pt : ak_POT b n o 1 z) (ht : m ≤ z 0 + t) (hk : ak_kd b n (ak_st b n (z 0)) ≠ 0)
    (ok : ∀ (z3 : Nat → Nat) (x : Int) (hc4 hm4 : ak_S), (∀ (P : ak_S → Prop) (X : Nat → ak_S → Prop), P hm4 → ak_MV e 1 (dd + 3) ρ 205 [am_r 110] hm (fun h1 => ak_MI e 1 (dd + 3) ρ 212 [am_r 110, am_i nk, am_i ((ak_st b n (z 0) : Nat) : Int)] h1 (fun v h2 => v = ((9000 * p + z 2 : Nat) : Int) ∧ ak_MI e 1 (dd + 3) ρ 222 [am_r 110] h2 (fun v3 h3 => P (am_up h3.1 115 (9000 * p + z 2) v3, h3.2)) (fun _ _ => False)) (fun _ _ => False)) (fun _ _ => False)) →
      ak_PI u p b n m lv D o Mt z3 hc4 hm4 → z 0 + 1 < z3 0 →
      (2 * z3 1 + 4 + 3 * ak_st b n (z 0) + z 5 ≤ 2 * z 1 + 3 * ak_st b n (z3 0) + z3 5 ∧ z3 2 + ak_st b n (z 0) ≤ z 2 + ak_st b n (z3 0) ∧ 13 * z3 3 + 1 + ak_st b n (z 0) ≤ 13 * z 3 + ak_st b n (z3 0) ∧ 6 * z3 4 + 1 + ak_st b n (z 0) ≤ 6 * z 4 + ak_st b n (z3 0)) → z 2 < z3 2 → ak_POT b n o 2 z3 → (z3 1 < 9200 ∧ z3 2 < 6060) →
      ak_ext u p z z3 hc hm hc4 hm4 → ak_sub u p (ak_PX u p (ak_hx 222 o) x (ak_lt Mt lv)) (ak_zu (ak_zu z 0 (z 0 + 1)) 2 (z 2 + 1)) z3 z3 hc4 hm4 → ak_nd hm4 (9000 * p + z 2) nk x (-1) (-1) (-1) (-1) ((ak_st b n (z 0) : Nat) : Int) → Q hc4)
    (bad : ∀ (hcx hmx : ak_S), (∀ (P : ak_S → Prop) (X : Nat → ak_S → Prop), P hmx → ak_MV e 1 (dd + 3) ρ 205 [am_r 110] hm (fun h1 => ak_MI e 1 (dd + 3) ρ 212 [am_r 110, am_i nk, am_i ((ak_st b n (z 0) : Nat) : Int)] h1 (fun v h2 => v = ((9000 * p + z 2 : Nat) : Int) ∧ ak_MI e 1 (dd + 3) ρ 222 [am_r 110] h2 (fun v3 h3 => P (am_up h3.1 115 (9000 * p + z 2) v3, h3.2)) (fun _ _ => False)) (fun _ _ => False)) (fun _ _ => False)) → ak_WR u p hc hm hcx hmx → X 0 hcx) :
    ak_MV e 0 (dd + 2) [ρ0, ak_T u, ak_T u + 1, ρ3, ρ4] 128 [am_r 3] hc (fun h1 => ak_MV e 0 (dd + 2) [ρ0, ak_T u, ak_T u + 1, ρ3, ρ4] 34 [am_r 2, am_i (o : Int)] h1 (fun h2 => Q h2) X) Y := by
  have rm := ak_room w (by decide) pt
  obtain ⟨d0, rfl⟩ : ∃ d0, dd = d0 + 11 := ⟨dd - 11, by omega⟩
  refine lk_adv (dm := d0 + 11) (ρ := ρ) hu w hk (fun hc1 hm1 I1 fr fr' e1 su rd => ?_)
  have su' : ak_st b n (z 0) + 1 ≤ ak_st b n (z 0 + 1) := su
  have hp2 := w.2.1.1.2.1
  have I2 := ak_PI_node hu I1 (k := nk) (r := ((ak_st b n (z 0) : Nat) : Int))
  have e2 : ak_ext u p (ak_zu z 0 (z 0 + 1)) (ak_zu (ak_zu z 0 (z 0 + 1)) 2 (z 2 + 1)) hc1 hm1 hc1 (ak_node hm1 p (z 2) nk ((ak_st b n (z 0) : Nat) : Int)) := ak_ext_node (show z 2 < 9000 by omega)
  have e02 := ak_ext_trans e1 e2
  have n2 : ak_nd (ak_node hm1 p (z 2) nk ((ak_st b n (z 0) : Nat) : Int)) (9000 * p + z 2) nk (-1) (-1) (-1) (-1) (-1) ((ak_st b n (z 0) : Nat) : Int) := ak_nd_new
  have pt2 : ak_POT b n o 2 (ak_zu (ak_zu z 0 (z 0 + 1)) 2 (z 2 + 1)) := by
    unfold ak_POT at pt ⊢
    show 2 * z 1 ≤ 3 * ak_st b n (z 0 + 1) + z 5 + 10 * o + 3 * 2 ∧ z 2 + 1 ≤ ak_st b n (z 0 + 1) + 2 * o + 2 ∧ 13 * z 3 ≤ ak_st b n (z 0 + 1) + 13 * o ∧ 6 * z 4 ≤ ak_st b n (z 0 + 1)
    omega
  have base : ∀ (P : ak_S → Prop) (X : Nat → ak_S → Prop), ak_MI e 1 (d0 + 11 + 3) ρ 222 [am_r 110] (ak_node hm1 p (z 2) nk ((ak_st b n (z 0) : Nat) : Int)) (fun v3 h3 => P (am_up h3.1 115 (9000 * p + z 2) v3, h3.2)) (fun _ _ => False) →
      ak_MV e 1 (d0 + 11 + 3) ρ 205 [am_r 110] hm (fun h1 => ak_MI e 1 (d0 + 11 + 3) ρ 212 [am_r 110, am_i nk, am_i ((ak_st b n (z 0) : Nat) : Int)] h1 (fun v h2 => v = ((9000 * p + z 2 : Nat) : Int) ∧ ak_MI e 1 (d0 + 11 + 3) ρ 222 [am_r 110] h2 (fun v3 h3 => P (am_up h3.1 115 (9000 * p + z 2) v3, h3.2)) (fun _ _ => False)) (fun _ _ => False)) (fun _ _ => False) :=
    fun P X g => rd _ _ (am_s212 I1.2.1.1.1 hp2 I1.2.2.2.2.2.2.2.2.2.1 (show z 2 < 9000 by omega) ⟨rfl, g⟩)
  refine lk_ecell (q := 115) (y := z 2) (dd := d0 + 11 + 2) hu (by decide) hd hE I2 pt2 (show m ≤ z 0 + 1 + t by omega) (show z 2 < z 2 + 1 by omega) (fun z3 x hc3 hm3 I3 l3 r3 pt3 rm3 e3 s3 go3 => ?_) (fun hcx x hmx wr go3 => ?_)
  · have le3 := ak_ext_le e3
    have le32 : z 2 + 1 ≤ z3 2 := le3.2.2.1
    have l3' : z 0 + 1 < z3 0 := l3
    have r3' : 2 * z3 1 + 1 + 3 * ak_st b n (z 0 + 1) + z 5 ≤ 2 * z 1 + 3 * ak_st b n (z3 0) + z3 5 ∧ z3 2 + ak_st b n (z 0 + 1) ≤ z 2 + 1 + ak_st b n (z3 0) ∧ 13 * z3 3 + ak_st b n (z 0 + 1) ≤ 13 * z 3 + ak_st b n (z3 0) ∧ 6 * z3 4 + ak_st b n (z 0 + 1) ≤ 6 * z 4 + ak_st b n (z3 0) := r3
    have n3 := ak_nd_115 (v := x) (ak_nd_ext e3 (show z 2 < z 2 + 1 by omega) n2)
    have e3c := ak_ext_cell (ak_ext_trans e02 e3) (q := 115) (k := 9000 * p + z 2) (v := x) (by decide) (Nat.le_refl _) (by omega)
    exact ok z3 x hc3 _ (fun P X g => base P X (go3 _ _ g)) I3 l3' (by omega) (by omega) pt3 rm3 e3c s3 n3
  · exact bad _ _ (fun P X g => base P X (go3 _ _ g)) (ak_WR_ext w I2 (Nat.le_refl _) e02 wr)
/-- a jump landed -/
theorem ak_ext_land (w : ak_ext u p z z' hc0 hm0 hc hm) {k : Nat} {v : Int} (hu : u = 0 ∨ u = 1) (hk : z 1 ≤ k) : ak_ext u p z z' hc0 hm0 (ak_land hc u k v) hm :=
  ak_ext_C w hu (by omega) (fun _ => hk) (fun q => absurd q (by omega)) (fun q => absurd q (by omega)) (fun q => absurd q (by omega)) (by omega)
theorem ak_PI_land (hu : u = 0 ∨ u = 1) (w : ak_PI u p b n m lv D o Mt z hc hm) {k : Nat} {v : Int} : ak_PI u p b n m lv D o Mt z (ak_land hc u k v) hm :=
  ak_PI_C hu w (Or.inl (by omega))
theorem ak_land_3 {k : Nat} {v : Int} : (ak_land hc u k v).1 (ak_T u + 3) k = v := ak_up_at
theorem ak_land_2 {k j : Nat} {v : Int} : (ak_land hc u k v).1 (ak_T u + 2) j = hc.1 (ak_T u + 2) j := ak_up_out (by omega)
theorem ak_land_3n {k j : Nat} {v : Int} (h : j ≠ k) : (ak_land hc u k v).1 (ak_T u + 3) j = hc.1 (ak_T u + 3) j := ak_up_out (by omega)
theorem lk_while {ρ0 ρ3 ρ4 t : Nat} {sta : Int} (hu : u = 0 ∨ u = 1) (hE : ak_EX e u p b n m ρ0 ρ3 ρ4 ρ 34 222 13 13 t) (hS : ∀ t', t' < t → ak_SX e u p b n m ρ0 ρ3 ρ4 ρ t') (w : ak_PI u p b n m lv D o Mt z hc hm) (pt : ak_POT b n o 1 z) (ht : m ≤ z 0 + t) (hk : ak_kd b n (ak_st b n (z 0)) = 204) (hsta : sta + 1 = (z 1 : Int)) :
    ak_MV e 0 (d + 20 * (20 - o) + 24) [ρ0, ak_T u, ak_T u + 1, ρ3, ρ4] 29 [am_r 2, am_i sta, am_i (o : Int)] hc (ak_KQ e ρ (d + 20 * (20 - o) + 25) u p b n m lv D o Mt z hc hm) (ak_XXs e ρ (d + 20 * (20 - o) + 25) 233 u p hc hm) := by
  have tk : hm.1 110 33 = 204 := w.2.1.2.2.1.trans hk
  have p34 := w.2.1.2.2.2.1
  have hp2 := w.2.1.1.2.1
  have rm := ak_room w (by decide) pt
  have bv : 0 ≤ ((9000 * p + z 2 : Nat) : Int) ∧ ((9000 * p + z 2 : Nat) : Int) < 18000 := by omega
  have run0 : ∀ (Q : Int → ak_S → Prop) (X : Nat → ak_S → Prop), ak_MV e 1 (d + 20 * (20 - o) + 24) ρ 205 [am_r 110] hm (fun h1 => ak_MI e 1 (d + 20 * (20 - o) + 24) ρ 212 [am_r 110, am_i 30, am_i ((ak_st b n (z 0) : Nat) : Int)] h1 (fun v h2 => v = ((9000 * p + z 2 : Nat) : Int) ∧ ak_MI e 1 (d + 20 * (20 - o) + 24) ρ 222 [am_r 110] h2 (fun v3 h3 =>
          ak_whK e (d + 20 * (20 - o) + 24) ρ p (z 2) Q (am_up h3.1 115 (9000 * p + z 2) v3, h3.2)) (fun _ _ => False)) (fun _ _ => False)) (fun _ _ => False) → ak_MI e 1 (d + 20 * (20 - o) + 25) ρ 233 [am_r 110] hm Q X := by
    intro Q X g
    refine am_p233_204 tk ?_
    rw [p34]
    refine ak_MV_imp g (fun h1 g2 => ak_MI_imp g2 (fun v h2 g3 => ?_) (fun _ _ q => q)) (fun _ _ q => q)
    obtain ⟨rfl, g3⟩ := g3
    rw [ak_natn]
    exact ak_MI_imp g3 (fun v3 h3 g4 => ⟨bv, ak_MI_imp g4 (fun v h5 g6 => ⟨bv, g6⟩) (fun _ _ q => q)⟩) (fun _ _ q => q)
  refine ak_MV_of (Nat.le_of_ble_eq_true rfl) (am_k29_0 hu (lk_nexp (nk := 30) (dd := d + 20 * (20 - o) + 21) (ρ := ρ) hu (by omega) hE w pt ht (by omega) (fun z3 x hc4 hm4 run I4 l3 r3 l32 pt3 rm3 e4 s4 n4 => ?_) (fun hcx hmx run wr => ?_)))
  · have le4 := ak_ext_le e4
    have l1 : z 1 ≤ z3 1 := le4.2.1
    have l34 : z 4 ≤ z3 4 := le4.2.2.2.2.1
    have n6 := (ak_st_n w).2.1
    have pt3' := pt3
    unfold ak_POT at pt3'
    have I5 := ak_PI_put hu I4 (r := 31) (x := 0)
    have e5 := ak_ext_put (p := p) (z := z3) (hc := hc4) (hm := hm4) (r := 31) (x := 0) hu
    have e05 := ak_ext_trans e4 e5
    refine am_s3 hu I4.2.2.2.2.2.2.2.2.1 (show z3 1 < 9600 by omega) (lk_bcell (q := 116) (y := z 2) (dd := d + 20 * (20 - o) + 22) (ρ := ρ) hu (by decide) (by omega) hS I5 (show z3 2 ≤ 6130 by omega) (show 2 * (z3 1 + 1) ≤ 3 * ak_st b n (z3 0) + z3 5 + 10 * o + 13 ∧ z3 2 ≤ ak_st b n (z3 0) + 2 * o + 3 ∧ 13 * z3 3 ≤ ak_st b n (z3 0) + 13 * o + 14 ∧ 6 * z3 4 ≤ ak_st b n (z3 0) + 1 by omega) (show m ≤ z3 0 + t by omega) (show z 2 < z3 2 by omega) (fun D6 z6 x6 hc6 hm6 I6 l6 r6 e6 d6 s6 go6 => ?_) (fun hcx x6 hmx wr go6 => ?_))
    · have le6 := ak_ext_le e6
      have le61 : z3 1 + 1 ≤ z6 1 := le6.2.1
      have le62 : z3 2 ≤ z6 2 := le6.2.2.1
      have le64 : z3 4 ≤ z6 4 := le6.2.2.2.2.1
      have l6' : z3 0 < z6 0 := l6
      have r6' : 2 * z6 1 + 6 + 3 * ak_st b n (z3 0) + z3 5 ≤ 2 * (z3 1 + 1) + 3 * ak_st b n (z6 0) + z6 5 ∧ z6 2 + 2 + ak_st b n (z3 0) ≤ z3 2 + ak_st b n (z6 0) ∧ 13 * z6 3 + 2 + ak_st b n (z3 0) ≤ 13 * z3 3 + ak_st b n (z6 0) ∧ 6 * z6 4 + 2 + ak_st b n (z3 0) ≤ 6 * z3 4 + ak_st b n (z6 0) := r6
      have hs6 := (ak_st_n I6).1
      have o20 := (ak_st_n I6).2.2.1
      have z56 := (ak_st_n I6).2.2.2
      have nn6 := ak_nd_116 (v := x6) (ak_nd_ext e6 (show z 2 < z3 2 by omega) (ak_nd_ext e5 (show z 2 < z3 2 by omega) n4))
      have sA := ak_sub_cell (ak_sub_ext (ak_sub_ext s4 e5) e6) (q := 116) (j := 9000 * p + z 2) (v := x6) (by decide) (Or.inl (show 9000 * p + z 2 < 9000 * p + (z 2 + 1) by omega))
      have e06 := ak_ext_cell (ak_ext_trans e05 e6) (q := 116) (k := 9000 * p + z 2) (v := x6) (by decide) (Nat.le_refl _) (by omega)
      have u31 := ak_od_ext (c := z3 1) e6 (Nat.lt_succ_self _) (ak_put_2 (hc := hc4) (u := u) (c := z3 1) (r := 31) (v := 0))
      -- the jump back
      have I7 := ak_PI_put hu I6 (r := 30) (x := sta)
      have e7 := ak_ext_put (p := p) (z := z6) (hc := hc6) (hm := (am_up hm6.1 116 (9000 * p + z 2) x6, hm6.2)) (r := 30) (x := sta) hu
      have e07 := ak_ext_trans e06 e7
      have I8 := ak_PI_land hu I7 (k := z3 1) (v := ((z6 1 + 1 : Nat) : Int))
      have e08 := ak_ext_land e07 (k := z3 1) (v := ((z6 1 + 1 : Nat) : Int)) hu l1
      have sA8 := ak_sub_land (ak_sub_ext sA e7) (j := z3 1) (v := ((z6 1 + 1 : Nat) : Int)) (Or.inr (Nat.le_refl _))
      have sB8 := ak_sub_land (ak_sub_ext s6 e7) (j := z3 1) (v := ((z6 1 + 1 : Nat) : Int)) (Or.inl (show z3 1 < z3 1 + 1 by omega))
      have n7 := ak_nd_ext e7 (show z 2 < z6 2 by omega) nn6
      have n8 : ak_nd (am_up hm6.1 116 (9000 * p + z 2) x6, hm6.2) (9000 * p + z 2) 30 x x6 (-1) (-1) (-1) ((ak_st b n (z 0) : Nat) : Int) := nn6
      refine am_s3 hu I6.2.2.2.2.2.2.2.2.1 (show z6 1 < 9600 by omega) (am_s4 hu (show z3 1 < 9600 by omega) I7.2.2.2.2.2.2.2.2.1 ?_)
      refine ⟨D6, _, z 2, _, ⟨I8, show z 0 < z6 0 by omega, ?_, e08, d6, Nat.le_refl _, show z 2 < z6 2 by omega, n8.2.2.2.2.2.1, n8.2.2.2.2.2.2, fun C M ft => ?_⟩, fun Q X g => run0 Q X (run _ X (go6 _ _ g))⟩
      · show 2 * (z6 1 + 1) + 2 + 3 * ak_st b n (z 0) + z 5 ≤ 2 * z 1 + 3 * ak_st b n (z6 0) + z6 5 ∧ z6 2 + ak_st b n (z 0) ≤ z 2 + ak_st b n (z6 0) ∧ 13 * z6 3 + ak_st b n (z 0) ≤ 13 * z 3 + ak_st b n (z6 0) ∧ 6 * z6 4 + ak_st b n (z 0) ≤ 6 * z 4 + ak_st b n (z6 0)
        omega
      · have tA := ak_sub_T sA8 ft (show z 1 ≤ z 1 ∧ z 2 ≤ z 2 + 1 ∧ z 3 ≤ z 3 ∧ z 4 ≤ z 4 ∧ z 5 ≤ z 5 by omega) l34 (Or.inl (show ((9000 * p + z 2 : Nat) : Int) < ((9000 * p + (z 2 + 1) : Nat) : Int) by omega))
        have tB := ak_sub_T sB8 ft (show z 1 ≤ z3 1 + 1 ∧ z 2 ≤ z3 2 ∧ z 3 ≤ z3 3 ∧ z 4 ≤ z3 4 ∧ z 5 ≤ z3 5 by have := le4.2.2.2.1; have := le4.2.2.2.2.2.1; omega) (show z 4 ≤ z6 4 by omega) (Or.inl (show ((9000 * p + z 2 : Nat) : Int) < ((9000 * p + z3 2 : Nat) : Int) by omega))
        obtain ⟨m1, m2, m3, m4, m5, m6⟩ := ak_nd_M n8 ft (Nat.le_refl _) (show z 2 < z6 2 by omega)
        have c1 := ft.1.1 (z3 1) l1 (show z3 1 < z6 1 + 1 by omega)
        have c2 := ft.1.1 (z6 1) (show z 1 ≤ z6 1 by omega) (Nat.lt_succ_self _)
        have tA' : ak_X0 C M (ak_T u) p (ak_hx 222 o) (z3 2 - (z 2 + 1)) x (ak_lt Mt lv) (z 1) (z3 1) := tA
        have tB' : ak_X2 C M (ak_T u) p (o + 1) (z6 2 - z3 2) x6 (ak_lt Mt lv) (z3 1 + 1) (z6 1) := tB
        intro Gd i hG hG2 hi
        have hi' : z6 2 - z 2 + 21 ≤ i + o := hi
        have ho := (ak_st_n w).2.2.1
        have o1 : C (ak_T u + 2) (z3 1) = 31 := c1.1.trans (ak_land_2.trans (ak_od_ext e7 (show z3 1 < z6 1 by omega) u31))
        have o2 : C (ak_T u + 3) (z3 1) = ((z6 1 + 1 : Nat) : Int) := c1.2.trans ak_land_3
        have o3 : C (ak_T u + 2) (z6 1) = 30 := c2.1.trans (ak_land_2.trans ak_put_2)
        have o4 : C (ak_T u + 3) (z6 1) = sta := c2.2.trans ((ak_land_3n (by omega)).trans ak_put_3)
        rw [← m2] at tA'
        rw [← m3] at tB'
        exact ak_T3_fold ⟨_, rfl, Or.inr (Or.inr (Or.inr (Or.inr (Or.inr (Or.inr (Or.inr (Or.inr (Or.inr (Or.inl ⟨m1, z3 1, z6 1, i - 1, ak_RX_mk tA' (ak_lt_lt w) ak_hx_150 (by omega), o1, o2, ⟨by omega, tB' Gd (i - 1) (by omega) hG2 (by omega)⟩, o3, by rw [o4]; exact hsta, rfl⟩)))))))))⟩
    · exact ⟨rfl, ((9000 * p + z 2 : Nat) : Int), _, ak_WR_s (ak_WR_ext w I5 (Nat.le_refl _) e05 wr), fun Q X g => run0 Q X (run _ X (go6 _ _ g))⟩
  · have wr0 : ∀ h', ak_wf hmx h' → ak_WR u p hc hm hcx (am_up h'.1 116 (9000 * p + z 2) (-1), h'.2) := fun h' wf => ak_WR_cell (ak_WR_wf wr wf) (q := 116) (k := 9000 * p + z 2) (v := -1) (by decide) (by omega) (by omega)
    obtain ⟨x', hm', ⟨ex', wf⟩, cl⟩ := ak_MI_get (e := e) (r := 1) (d := d + 20 * (20 - o) + 18 + 6) (ρ := ρ) (am_w232 (X := ak_F) (d := d + 20 * (20 - o) + 18) (Q := fun v h' => v = -1 ∧ ak_wf hmx h') wr.1 (fun h' wf => ⟨rfl, wf⟩))
    subst ex'
    exact ⟨rfl, ((9000 * p + z 2 : Nat) : Int), _, ak_WR_s (wr0 hm' wf), fun Q X g => run0 Q X (run _ X (cl _ _ g))⟩
theorem lk_if {ρ0 ρ3 ρ4 t : Nat} (hu : u = 0 ∨ u = 1) (hE : ak_EX e u p b n m ρ0 ρ3 ρ4 ρ 34 222 13 13 t) (hS : ∀ t', t' < t → ak_SX e u p b n m ρ0 ρ3 ρ4 ρ t') (w : ak_PI u p b n m lv D o Mt z hc hm) (pt : ak_POT b n o 1 z) (ht : m ≤ z 0 + t) (hk : ak_kd b n (ak_st b n (z 0)) = 202) :
    ak_MV e 0 (d + 20 * (20 - o) + 24) [ρ0, ak_T u, ak_T u + 1, ρ3, ρ4] 28 [am_r 2, am_i (o : Int)] hc (ak_KQ e ρ (d + 20 * (20 - o) + 25) u p b n m lv D o Mt z hc hm) (ak_XXs e ρ (d + 20 * (20 - o) + 25) 233 u p hc hm) := by
  have tk : hm.1 110 33 = 202 := w.2.1.2.2.1.trans hk
  have p34 := w.2.1.2.2.2.1
  have hp2 := w.2.1.1.2.1
  have rm := ak_room w (by decide) pt
  have bv : 0 ≤ ((9000 * p + z 2 : Nat) : Int) ∧ ((9000 * p + z 2 : Nat) : Int) < 18000 := by omega
  have run0 : ∀ (Q : Int → ak_S → Prop) (X : Nat → ak_S → Prop), ak_MV e 1 (d + 20 * (20 - o) + 24) ρ 205 [am_r 110] hm (fun h1 => ak_MI e 1 (d + 20 * (20 - o) + 24) ρ 212 [am_r 110, am_i 29, am_i ((ak_st b n (z 0) : Nat) : Int)] h1 (fun v h2 => v = ((9000 * p + z 2 : Nat) : Int) ∧ ak_MI e 1 (d + 20 * (20 - o) + 24) ρ 222 [am_r 110] h2 (fun v3 h3 =>
          ak_ifK e (d + 20 * (20 - o) + 24) ρ p (z 2) Q (am_up h3.1 115 (9000 * p + z 2) v3, h3.2)) (fun _ _ => False)) (fun _ _ => False)) (fun _ _ => False) → ak_MI e 1 (d + 20 * (20 - o) + 25) ρ 233 [am_r 110] hm Q X := by
    intro Q X g
    refine am_p233_202 tk ?_
    rw [p34]
    refine ak_MV_imp g (fun h1 g2 => ak_MI_imp g2 (fun v h2 g3 => ?_) (fun _ _ q => q)) (fun _ _ q => q)
    obtain ⟨rfl, g3⟩ := g3
    rw [ak_natn]
    exact ak_MI_imp g3 (fun v3 h3 g4 => ⟨bv, ak_MI_imp g4 (fun v h5 g6 => ⟨bv, ak_MI_imp g6 (fun v6 h7 g7 => ⟨g7.1, fun q => ak_MV_imp (g7.2 q) (fun h8 g8 => ak_MI_imp g8 (fun v9 h9 g9 => ⟨bv, g9⟩) (fun _ _ q => q)) (fun _ _ q => q)⟩) (fun _ _ q => q)⟩) (fun _ _ q => q)⟩) (fun _ _ q => q)
  refine ak_MV_of (Nat.le_of_ble_eq_true rfl) (am_k28_0 hu (lk_nexp (nk := 29) (dd := d + 20 * (20 - o) + 21) (ρ := ρ) hu (by omega) hE w pt ht (by omega) (fun z3 x hc4 hm4 run I4 l3 r3 l32 pt3 rm3 e4 s4 n4 => ?_) (fun hcx hmx run wr => ?_)))
  · have le4 := ak_ext_le e4
    have l1 : z 1 ≤ z3 1 := le4.2.1
    have l33 : z 3 ≤ z3 3 := le4.2.2.2.1
    have l34 : z 4 ≤ z3 4 := le4.2.2.2.2.1
    have l35 : z 5 ≤ z3 5 := le4.2.2.2.2.2.1
    have n6 := (ak_st_n w).2.1
    have pt3' := pt3
    unfold ak_POT at pt3'
    have I5 := ak_PI_put hu I4 (r := 31) (x := 0)
    have e5 := ak_ext_put (p := p) (z := z3) (hc := hc4) (hm := hm4) (r := 31) (x := 0) hu
    have e05 := ak_ext_trans e4 e5
    refine am_s3 hu I4.2.2.2.2.2.2.2.2.1 (show z3 1 < 9600 by omega) (lk_bcell (q := 116) (y := z 2) (dd := d + 20 * (20 - o) + 22) (ρ := ρ) hu (by decide) (by omega) hS I5 (show z3 2 ≤ 6130 by omega) (show 2 * (z3 1 + 1) ≤ 3 * ak_st b n (z3 0) + z3 5 + 10 * o + 13 ∧ z3 2 ≤ ak_st b n (z3 0) + 2 * o + 3 ∧ 13 * z3 3 ≤ ak_st b n (z3 0) + 13 * o + 14 ∧ 6 * z3 4 ≤ ak_st b n (z3 0) + 1 by omega) (show m ≤ z3 0 + t by omega) (show z 2 < z3 2 by omega) (fun D6 z6 x6 hc6 hm6 I6 l6 r6 e6 d6 s6 go6 => ?_) (fun hcx x6 hmx wr go6 => ?_))
    · have le6 := ak_ext_le e6
      have le61 : z3 1 + 1 ≤ z6 1 := le6.2.1
      have le62 : z3 2 ≤ z6 2 := le6.2.2.1
      have le63 : z3 3 ≤ z6 3 := le6.2.2.2.1
      have le64 : z3 4 ≤ z6 4 := le6.2.2.2.2.1
      have le65 : z3 5 ≤ z6 5 := le6.2.2.2.2.2.1
      have l6' : z3 0 < z6 0 := l6
      have r6' : 2 * z6 1 + 6 + 3 * ak_st b n (z3 0) + z3 5 ≤ 2 * (z3 1 + 1) + 3 * ak_st b n (z6 0) + z6 5 ∧ z6 2 + 2 + ak_st b n (z3 0) ≤ z3 2 + ak_st b n (z6 0) ∧ 13 * z6 3 + 2 + ak_st b n (z3 0) ≤ 13 * z3 3 + ak_st b n (z6 0) ∧ 6 * z6 4 + 2 + ak_st b n (z3 0) ≤ 6 * z3 4 + ak_st b n (z6 0) := r6
      have hs6 := (ak_st_n I6).1
      have o20 := (ak_st_n I6).2.2.1
      have z56 := (ak_st_n I6).2.2.2
      have hf6 := I6.2.2.1
      have tk6 := I6.2.1.2.2.1
      have hkC := I6.1.2.2.2.2.1
      have nn6 := ak_nd_116 (v := x6) (ak_nd_ext e6 (show z 2 < z3 2 by omega) (ak_nd_ext e5 (show z 2 < z3 2 by omega) n4))
      have sA := ak_sub_cell (ak_sub_ext (ak_sub_ext s4 e5) e6) (q := 116) (j := 9000 * p + z 2) (v := x6) (by decide) (Or.inl (show 9000 * p + z 2 < 9000 * p + (z 2 + 1) by omega))
      have e06 := ak_ext_cell (ak_ext_trans e05 e6) (q := 116) (k := 9000 * p + z 2) (v := x6) (by decide) (Nat.le_refl _) (by omega)
      have u31 := ak_od_ext (c := z3 1) e6 (Nat.lt_succ_self _) (ak_put_2 (hc := hc4) (u := u) (c := z3 1) (r := 31) (v := 0))
      rw [hkC]
      refine ⟨fun kne => ?_, fun keq => ?_⟩
      · have I8 := ak_PI_land hu I6 (k := z3 1) (v := (z6 1 : Int))
        have e08 := ak_ext_land e06 (k := z3 1) (v := (z6 1 : Int)) hu l1
        have sA8 := ak_sub_land sA (j := z3 1) (v := (z6 1 : Int)) (Or.inr (Nat.le_refl _))
        have sB8 := ak_sub_land s6 (j := z3 1) (v := (z6 1 : Int)) (Or.inl (show z3 1 < z3 1 + 1 by omega))
        refine am_s4 hu (show z3 1 < 9600 by omega) I6.2.2.2.2.2.2.2.2.1 ?_
        refine ⟨D6, _, z 2, _, ⟨I8, show z 0 < z6 0 by omega, ?_, e08, d6, Nat.le_refl _, show z 2 < z6 2 by omega, nn6.2.2.2.2.2.1, nn6.2.2.2.2.2.2, fun C M ft => ?_⟩, fun Q X g => run0 Q X (run _ X (go6 _ _ (am_s208 (fun _ q => absurd (tk6.symm.trans q) kne) (fun _ => ⟨fun _ => g, fun q => absurd rfl q⟩))))⟩
        · show 2 * z6 1 + 2 + 3 * ak_st b n (z 0) + z 5 ≤ 2 * z 1 + 3 * ak_st b n (z6 0) + z6 5 ∧ z6 2 + ak_st b n (z 0) ≤ z 2 + ak_st b n (z6 0) ∧ 13 * z6 3 + ak_st b n (z 0) ≤ 13 * z 3 + ak_st b n (z6 0) ∧ 6 * z6 4 + ak_st b n (z 0) ≤ 6 * z 4 + ak_st b n (z6 0)
          omega
        · have tA := ak_sub_T sA8 ft (show z 1 ≤ z 1 ∧ z 2 ≤ z 2 + 1 ∧ z 3 ≤ z 3 ∧ z 4 ≤ z 4 ∧ z 5 ≤ z 5 by omega) l34 (Or.inl (show ((9000 * p + z 2 : Nat) : Int) < ((9000 * p + (z 2 + 1) : Nat) : Int) by omega))
          have tB := ak_sub_T sB8 ft (show z 1 ≤ z3 1 + 1 ∧ z 2 ≤ z3 2 ∧ z 3 ≤ z3 3 ∧ z 4 ≤ z3 4 ∧ z 5 ≤ z3 5 by omega) (show z 4 ≤ z6 4 by omega) (Or.inl (show ((9000 * p + z 2 : Nat) : Int) < ((9000 * p + z3 2 : Nat) : Int) by omega))
          obtain ⟨m1, m2, m3, m4, m5, m6⟩ := ak_nd_M nn6 ft (Nat.le_refl _) (show z 2 < z6 2 by omega)
          have c1 := ft.1.1 (z3 1) l1 (show z3 1 < z6 1 by omega)
          have tA' : ak_X0 C M (ak_T u) p (ak_hx 222 o) (z3 2 - (z 2 + 1)) x (ak_lt Mt lv) (z 1) (z3 1) := tA
          have tB' : ak_X2 C M (ak_T u) p (o + 1) (z6 2 - z3 2) x6 (ak_lt Mt lv) (z3 1 + 1) (z6 1) := tB
          intro Gd i hG hG2 hi
          have hi' : z6 2 - z 2 + 21 ≤ i + o := hi
          have ho := (ak_st_n w).2.2.1
          have o1 : C (ak_T u + 2) (z3 1) = 31 := c1.1.trans (ak_land_2.trans u31)
          have o2 : C (ak_T u + 3) (z3 1) = (z6 1 : Int) := c1.2.trans ak_land_3
          rw [← m2] at tA'
          rw [← m3] at tB'
          exact ak_T3_fold ⟨_, rfl, Or.inr (Or.inr (Or.inr (Or.inr (Or.inr (Or.inr (Or.inr (Or.inr (Or.inl ⟨m1, z3 1, z6 1, i, i, ak_RX_mk tA' (ak_lt_lt w) ak_hx_150 (by omega), o1, ⟨Nat.le_refl _, Nat.le_refl _, tB' Gd i (by omega) hG2 (by omega)⟩, Or.inl ⟨m4, o2, rfl⟩⟩))))))))⟩
      · refine lk_adv (dm := d + 20 * (20 - o) + 21) (ρ := ρ) hu I6 (by omega) (fun hc7 hm7 I7 fr7 frm7 e7 su7 rd7 => ?_)
        have su7' : ak_st b n (z6 0) + 1 ≤ ak_st b n (z6 0 + 1) := su7
        have I8 := ak_PI_put hu I7 (r := 30) (x := 0)
        have e8 := ak_ext_put (p := p) (z := ak_zu z6 0 (z6 0 + 1)) (hc := hc7) (hm := hm7) (r := 30) (x := 0) hu
        have e78 := ak_ext_trans e7 e8
        have e08 := ak_ext_trans e06 e78
        have I9 := ak_PI_land hu I8 (k := z3 1) (v := ((z6 1 + 1 : Nat) : Int))
        have e09 := ak_ext_land e08 (k := z3 1) (v := ((z6 1 + 1 : Nat) : Int)) hu l1
        have sA9 := ak_sub_land (ak_sub_ext sA e78) (j := z3 1) (v := ((z6 1 + 1 : Nat) : Int)) (Or.inr (Nat.le_refl _))
        have sB9 := ak_sub_land (ak_sub_ext s6 e78) (j := z3 1) (v := ((z6 1 + 1 : Nat) : Int)) (Or.inl (show z3 1 < z3 1 + 1 by omega))
        have n9 := ak_nd_ext e78 (show z 2 < z6 2 by omega) nn6
        have run1 : ∀ (Q : Int → ak_S → Prop) (X : Nat → ak_S → Prop), ak_MI e 1 (d + 20 * (20 - o) + 24) ρ 232 [am_r 110] hm7 (fun v27 h26 => Q ((9000 * p + z 2 : Nat) : Int) (am_up h26.1 117 (9000 * p + z 2) v27, h26.2)) (fun _ _ => False) → ak_MI e 1 (d + 20 * (20 - o) + 25) ρ 233 [am_r 110] hm Q X :=
          fun Q X g => run0 Q X (run _ X (go6 _ _ (am_s208 (fun _ _ => ⟨fun q => absurd q (by decide), fun _ => rd7 _ _ g⟩) (fun q => absurd ⟨hf6, tk6.trans keq⟩ q))))
        refine am_s3 hu I7.2.2.2.2.2.2.2.2.1 (show z6 1 < 9600 by omega) (am_s4 hu (show z3 1 < 9600 by omega) I8.2.2.2.2.2.2.2.2.1 ?_)
        refine lk_bcell (q := 117) (y := z 2) (dd := d + 20 * (20 - o) + 22) (ρ := ρ) hu (by decide) (by omega) hS I9 (show z6 2 ≤ 6130 by omega) (show 2 * (z6 1 + 1) ≤ 3 * ak_st b n (z6 0 + 1) + z6 5 + 10 * o + 13 ∧ z6 2 ≤ ak_st b n (z6 0 + 1) + 2 * o + 3 ∧ 13 * z6 3 ≤ ak_st b n (z6 0 + 1) + 13 * o + 14 ∧ 6 * z6 4 ≤ ak_st b n (z6 0 + 1) + 1 by omega) (show m ≤ z6 0 + 1 + t by omega) (show z 2 < z6 2 by omega) (fun D10 z10 x10 hc10 hm10 I10 l10 r10 e10 d10 s10 go10 => ?_) (fun hcx x10 hmx wr go10 => ?_)
        · have le10 := ak_ext_le e10
          have le101 : z6 1 + 1 ≤ z10 1 := le10.2.1
          have le102 : z6 2 ≤ z10 2 := le10.2.2.1
          have le104 : z6 4 ≤ z10 4 := le10.2.2.2.2.1
          have l10' : z6 0 + 1 < z10 0 := l10
          have r10' : 2 * z10 1 + 6 + 3 * ak_st b n (z6 0 + 1) + z6 5 ≤ 2 * (z6 1 + 1) + 3 * ak_st b n (z10 0) + z10 5 ∧ z10 2 + 2 + ak_st b n (z6 0 + 1) ≤ z6 2 + ak_st b n (z10 0) ∧ 13 * z10 3 + 2 + ak_st b n (z6 0 + 1) ≤ 13 * z6 3 + ak_st b n (z10 0) ∧ 6 * z10 4 + 2 + ak_st b n (z6 0 + 1) ≤ 6 * z6 4 + ak_st b n (z10 0) := r10
          have hs10 := (ak_st_n I10).1
          have z510 := (ak_st_n I10).2.2.2
          have nF := ak_nd_117 (v := x10) (ak_nd_ext e10 (show z 2 < z6 2 by omega) n9)
          have sA10 := ak_sub_cell (ak_sub_ext sA9 e10) (q := 117) (j := 9000 * p + z 2) (v := x10) (by decide) (Or.inl (show 9000 * p + z 2 < 9000 * p + (z 2 + 1) by omega))
          have sB10 := ak_sub_cell (ak_sub_ext sB9 e10) (q := 117) (j := 9000 * p + z 2) (v := x10) (by decide) (Or.inl (show 9000 * p + z 2 < 9000 * p + z3 2 by omega))
          have e010 := ak_ext_cell (ak_ext_trans e09 e10) (q := 117) (k := 9000 * p + z 2) (v := x10) (by decide) (Nat.le_refl _) (by omega)
          have IF := ak_PI_land hu I10 (k := z6 1) (v := (z10 1 : Int))
          have e0F := ak_ext_land e010 (k := z6 1) (v := (z10 1 : Int)) hu (by omega)
          have sAF := ak_sub_land sA10 (j := z6 1) (v := (z10 1 : Int)) (Or.inr (show z3 1 ≤ z6 1 by omega))
          have sBF := ak_sub_land sB10 (j := z6 1) (v := (z10 1 : Int)) (Or.inr (Nat.le_refl _))
          have sCF := ak_sub_land s10 (j := z6 1) (v := (z10 1 : Int)) (Or.inl (show z6 1 < z6 1 + 1 by omega))
          have v31 : (ak_land (ak_put hc7 u (z6 1) 30 0) u (z3 1) ((z6 1 + 1 : Nat) : Int)).1 (ak_T u + 2) (z3 1) = 31 := ak_land_2.trans (ak_od_ext e78 (show z3 1 < z6 1 by omega) u31)
          have w31 : (ak_land (ak_put hc7 u (z6 1) 30 0) u (z3 1) ((z6 1 + 1 : Nat) : Int)).1 (ak_T u + 3) (z3 1) = ((z6 1 + 1 : Nat) : Int) := ak_land_3
          have v30 : (ak_land (ak_put hc7 u (z6 1) 30 0) u (z3 1) ((z6 1 + 1 : Nat) : Int)).1 (ak_T u + 2) (z6 1) = 30 := ak_land_2.trans ak_put_2
          have x31 := ak_od_ext (c := z3 1) e10 (show z3 1 < z6 1 + 1 by omega) v31
          have y31 := ak_oa_ext (c := z3 1) e10 (show z3 1 < z6 1 + 1 by omega) w31
          have x30 := ak_od_ext (c := z6 1) e10 (Nat.lt_succ_self _) v30
          refine am_s4 hu (show z6 1 < 9600 by omega) I10.2.2.2.2.2.2.2.2.1 ?_
          refine ⟨D10, _, z 2, _, ⟨IF, show z 0 < z10 0 by omega, ?_, e0F, fun s hs => (d10 s hs).trans (d6 s hs), Nat.le_refl _, show z 2 < z10 2 by omega, nF.2.2.2.2.2.1, nF.2.2.2.2.2.2, fun C M ft => ?_⟩, fun Q X g => run1 Q X (go10 _ _ g)⟩
          · show 2 * z10 1 + 2 + 3 * ak_st b n (z 0) + z 5 ≤ 2 * z 1 + 3 * ak_st b n (z10 0) + z10 5 ∧ z10 2 + ak_st b n (z 0) ≤ z 2 + ak_st b n (z10 0) ∧ 13 * z10 3 + ak_st b n (z 0) ≤ 13 * z 3 + ak_st b n (z10 0) ∧ 6 * z10 4 + ak_st b n (z 0) ≤ 6 * z 4 + ak_st b n (z10 0)
            omega
          · have tA := ak_sub_T sAF ft (show z 1 ≤ z 1 ∧ z 2 ≤ z 2 + 1 ∧ z 3 ≤ z 3 ∧ z 4 ≤ z 4 ∧ z 5 ≤ z 5 by omega) l34 (Or.inl (show ((9000 * p + z 2 : Nat) : Int) < ((9000 * p + (z 2 + 1) : Nat) : Int) by omega))
            have tB := ak_sub_T sBF ft (show z 1 ≤ z3 1 + 1 ∧ z 2 ≤ z3 2 ∧ z 3 ≤ z3 3 ∧ z 4 ≤ z3 4 ∧ z 5 ≤ z3 5 by omega) (show z 4 ≤ z6 4 by omega) (Or.inl (show ((9000 * p + z 2 : Nat) : Int) < ((9000 * p + z3 2 : Nat) : Int) by omega))
            have tC := ak_sub_T sCF ft (show z 1 ≤ z6 1 + 1 ∧ z 2 ≤ z6 2 ∧ z 3 ≤ z6 3 ∧ z 4 ≤ z6 4 ∧ z 5 ≤ z6 5 by omega) (show z 4 ≤ z10 4 by omega) (Or.inl (show ((9000 * p + z 2 : Nat) : Int) < ((9000 * p + z6 2 : Nat) : Int) by omega))
            obtain ⟨m1, m2, m3, m4, m5, m6⟩ := ak_nd_M nF ft (Nat.le_refl _) (show z 2 < z10 2 by omega)
            have c1 := ft.1.1 (z3 1) l1 (show z3 1 < z10 1 by omega)
            have c2 := ft.1.1 (z6 1) (show z 1 ≤ z6 1 by omega) (show z6 1 < z10 1 by omega)
            have tA' : ak_X0 C M (ak_T u) p (ak_hx 222 o) (z3 2 - (z 2 + 1)) x (ak_lt Mt lv) (z 1) (z3 1) := tA
            have tB' : ak_X2 C M (ak_T u) p (o + 1) (z6 2 - z3 2) x6 (ak_lt Mt lv) (z3 1 + 1) (z6 1) := tB
            intro Gd i hG hG2 hi
            have hi' : z10 2 - z 2 + 21 ≤ i + o := hi
            have ho := (ak_st_n w).2.2.1
            have tC' : ak_X2 C M (ak_T u) p (o + 1) (z10 2 - z6 2) x10 (ak_lt Mt lv) (z6 1 + 1) (z10 1) := tC
            have o1 : C (ak_T u + 2) (z3 1) = 31 := c1.1.trans (ak_land_2.trans x31)
            have o2 : C (ak_T u + 3) (z3 1) = ((z6 1 + 1 : Nat) : Int) := c1.2.trans ((ak_land_3n (show z3 1 ≠ z6 1 by omega)).trans y31)
            have o3 : C (ak_T u + 2) (z6 1) = 30 := c2.1.trans (ak_land_2.trans x30)
            have o4 : C (ak_T u + 3) (z6 1) = (z10 1 : Int) := c2.2.trans ak_land_3
            rw [← m2] at tA'
            rw [← m3] at tB'
            rw [← m4] at tC'
            exact ak_T3_fold ⟨_, rfl, Or.inr (Or.inr (Or.inr (Or.inr (Or.inr (Or.inr (Or.inr (Or.inr (Or.inl ⟨m1, z3 1, z6 1, i, i, ak_RX_mk tA' (ak_lt_lt w) ak_hx_150 (by omega), o1, ⟨Nat.le_refl _, Nat.le_refl _, tB' Gd i (by omega) hG2 (by omega)⟩, Or.inr ⟨o2, o3, o4, tC' Gd i (by omega) hG2 (by omega)⟩⟩))))))))⟩
        · exact ⟨rfl, ((9000 * p + z 2 : Nat) : Int), _, ak_WR_s (ak_WR_ext w I9 (Nat.le_refl _) e09 wr), fun Q X g => run1 Q X (go10 _ _ g)⟩
    · exact ⟨rfl, ((9000 * p + z 2 : Nat) : Int), _, ak_WR_s (ak_WR_ext w I5 (Nat.le_refl _) e05 wr), fun Q X g => run0 Q X (run _ X (go6 _ _ (am_w208 wr.1 ⟨fun _ => g, fun q => absurd rfl q⟩)))⟩
  · have wr0 : ∀ h', ak_wf hmx h' → ak_WR u p hc hm hcx (am_up h'.1 116 (9000 * p + z 2) (-1), h'.2) := fun h' wf => ak_WR_cell (ak_WR_wf wr wf) (q := 116) (k := 9000 * p + z 2) (v := -1) (by decide) (by omega) (by omega)
    obtain ⟨x', hm', ⟨ex', wf⟩, cl⟩ := ak_MI_get (e := e) (r := 1) (d := d + 20 * (20 - o) + 18 + 6) (ρ := ρ) (am_w232 (X := ak_F) (d := d + 20 * (20 - o) + 18) (Q := fun v h' => v = -1 ∧ ak_wf hmx h') wr.1 (fun h' wf => ⟨rfl, wf⟩))
    subst ex'
    exact ⟨rfl, ((9000 * p + z 2 : Nat) : Int), _, ak_WR_s (wr0 hm' wf), fun Q X g => run0 Q X (run _ X (cl _ _ (am_w208 (wr0 hm' wf).1 ⟨fun _ => g, fun q => absurd rfl q⟩)))⟩
end LKIFW
