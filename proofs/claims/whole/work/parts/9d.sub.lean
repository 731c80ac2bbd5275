/-! a part of a statement: carried along; link and unlink -/
abbrev ak_Pp : Type := (Nat → Nat → Int) → (Nat → Nat → Int) → Nat → Nat → Nat → Prop
section SUB
variable {e : ak_X3} {d dd u p : Nat} {b : Nat → Int} {n m lv o Mt : Nat} {P : ak_Pp} {D : Nat → Nat} {z z' z1 z2 za zb zc : Nat → Nat} {hc hm hc' hm' hc1 hm1 hc2 hm2 hcc hmc hcF hmF : ak_S} {ρ : List Nat} {x : Int} {C M : Nat → Nat → Int}
/-- an expression, a body -/
def ak_PX (u p H : Nat) (x : Int) (lt : Nat) : ak_Pp := fun C M J a c => ak_X0 C M (ak_T u) p H J x lt a c
def ak_PL (u p o : Nat) (x : Int) (lt : Nat) : ak_Pp := fun C M J a c => ak_X2 C M (ak_T u) p o J x lt a c
def ak_sub (u p : Nat) (P : ak_Pp) (za zb zc : Nat → Nat) (hcc hmc : ak_S) : Prop := ∃ (hcb hmb : ak_S), ak_mid u p za zb hcb hmb zc hcc hmc ∧ ∀ C M, ak_fut u p za zb (-1) hcb.1 hmb.1 C M → P C M (zb 2 - za 2) (za 1) (zb 1)
theorem ak_sub_ext (s : ak_sub u p P za zb z1 hc1 hm1) (e1 : ak_ext u p z1 z2 hc1 hm1 hc2 hm2) : ak_sub u p P za zb z2 hc2 hm2 := by
  obtain ⟨a, c, h1, h2⟩ := s
  exact ⟨a, c, ak_mid_ext h1 e1, h2⟩
theorem ak_sub_cell (s : ak_sub u p P za zb z1 hc1 hm1) {q j : Nat} {v : Int} (hq : 110 ≤ q ∧ q ≤ 120) (hk : j < 9000 * p + za 2 ∨ 9000 * p + zb 2 ≤ j ∨ q < 114) : ak_sub u p P za zb z1 hc1 (am_up hm1.1 q j v, hm1.2) := by
  obtain ⟨a, c, h1, h2⟩ := s
  exact ⟨a, c, ak_mid_cell h1 hq hk, h2⟩
theorem ak_sub_land (s : ak_sub u p P za zb z1 hc1 hm1) {j : Nat} {v : Int} (hk : j < za 1 ∨ zb 1 ≤ j) : ak_sub u p P za zb z1 (ak_land hc1 u j v) hm1 := by
  obtain ⟨a, c, h1, h2⟩ := s
  exact ⟨a, c, ak_mid_land h1 hk, h2⟩
theorem ak_sub_T {y : Int} (s : ak_sub u p P za zb z' hcF hmF) (ft : ak_fut u p z z' y hcF.1 hmF.1 C M) (l : z 1 ≤ za 1 ∧ z 2 ≤ za 2 ∧ z 3 ≤ za 3 ∧ z 4 ≤ za 4 ∧ z 5 ≤ za 5) (l4 : z 4 ≤ zb 4) (hx : y < ((9000 * p + za 2 : Nat) : Int) ∨ ((9000 * p + zb 2 : Nat) : Int) ≤ y) : P C M (zb 2 - za 2) (za 1) (zb 1) := by
  obtain ⟨a, c, h1, h2⟩ := s
  exact h2 C M (ak_mid_fut h1 ft l l4 hx)
/-- an expression, put into a cell of a node made before it -/
theorem lk_ecell {ρ0 ρ3 ρ4 t q y : Nat} {Q : ak_S → Prop} {X : Nat → ak_S → Prop} (hu : u = 0 ∨ u = 1) (hq : 115 ≤ q ∧ q ≤ 118) (hd : 20 * (20 - o) + 13 ≤ dd) (hE : ak_EX e u p b n m ρ0 ρ3 ρ4 ρ 34 222 13 13 t) (w : ak_PI u p b n m lv D o Mt z hc hm) (pt : ak_POT b n o 2 z) (ht : m ≤ z 0 + t) (hy : y < z 2)
    (ok : ∀ (z' : Nat → Nat) (x : Int) (hc' hm' : ak_S), ak_PI u p b n m lv D o Mt z' hc' (am_up hm'.1 q (9000 * p + y) x, hm'.2) → z 0 < z' 0 → ak_REL b n 1 z z' → ak_POT b n o 2 z' → (z' 1 < 9200 ∧ z' 2 < 6060) → ak_ext u p z z' hc hm hc' hm' → ak_sub u p (ak_PX u p (ak_hx 222 o) x (ak_lt Mt lv)) z z' z' hc' (am_up hm'.1 q (9000 * p + y) x, hm'.2) → ak_goI e (dd + 1) ρ 222 [am_r 110] hm x hm' → Q hc')
    (bad : ∀ (hc' : ak_S) (x : Int) (hmx : ak_S), ak_WR u p hc hm hc' (am_up hmx.1 q (9000 * p + y) x, hmx.2) → ak_goI e (dd + 1) ρ 222 [am_r 110] hm x hmx → X 0 hc') :
    ak_MV e 0 dd [ρ0, ak_T u, ak_T u + 1, ρ3, ρ4] 34 [am_r 2, am_i (o : Int)] hc Q X := by
  have rm := ak_room w (by decide) pt
  refine ak_MV_imp (lk_e hd hE w pt ht) (fun hc3 R => ?_) (fun ex hcx R => ?_)
  · obtain ⟨z3, x, hm3, ⟨I3, l3, r3, e3, T3⟩, go3⟩ := R
    have pt3 := ak_POT_REL pt r3
    exact ok z3 x hc3 hm3 (ak_PI_cell hu I3 (Or.inl (by omega))) l3 r3 pt3 (ak_room I3 (by decide) pt3) e3 ⟨hc3, hm3, ak_mid_cell ak_mid_refl (by omega) (Or.inl (by omega)), T3⟩ go3
  · obtain ⟨hx, x, hmx, wr, go3⟩ := R
    subst hx
    exact bad hcx x hmx (ak_WR_cell wr (by omega) (by omega) (by omega)) go3
/-- a body, put into a cell of a node made before it -/
theorem lk_bcell {ρ0 ρ3 ρ4 t q y : Nat} {Q : ak_S → Prop} {X : Nat → ak_S → Prop} (hu : u = 0 ∨ u = 1) (hq : 115 ≤ q ∧ q ≤ 118) (hd : 20 * (20 - o) + 6 ≤ dd) (hS : ∀ t', t' < t → ak_SX e u p b n m ρ0 ρ3 ρ4 ρ t') (w : ak_PI u p b n m lv D o Mt z hc hm) (hz : z 2 ≤ 6130)
    (pt : 2 * z 1 ≤ 3 * ak_st b n (z 0) + z 5 + 10 * o + 13 ∧ z 2 ≤ ak_st b n (z 0) + 2 * o + 3 ∧ 13 * z 3 ≤ ak_st b n (z 0) + 13 * o + 14 ∧ 6 * z 4 ≤ ak_st b n (z 0) + 1) (ht : m ≤ z 0 + t) (hy : y < z 2)
    (ok : ∀ (D' z' : Nat → Nat) (x : Int) (hc' hm' : ak_S), ak_PI u p b n m lv D' o Mt z' hc' (am_up hm'.1 q (9000 * p + y) x, hm'.2) → z 0 < z' 0 → (2 * z' 1 + 6 + 3 * ak_st b n (z 0) + z 5 ≤ 2 * z 1 + 3 * ak_st b n (z' 0) + z' 5 ∧ z' 2 + 2 + ak_st b n (z 0) ≤ z 2 + ak_st b n (z' 0) ∧ 13 * z' 3 + 2 + ak_st b n (z 0) ≤ 13 * z 3 + ak_st b n (z' 0) ∧ 6 * z' 4 + 2 + ak_st b n (z 0) ≤ 6 * z 4 + ak_st b n (z' 0)) → ak_ext u p z z' hc hm hc' hm' → (∀ s, s < lv → D' s = D s) → ak_sub u p (ak_PL u p (o + 1) x (ak_lt Mt lv)) z z' z' hc' (am_up hm'.1 q (9000 * p + y) x, hm'.2) → ak_goI e (dd + 2) ρ 232 [am_r 110] hm x hm' → Q hc')
    (bad : ∀ (hc' : ak_S) (x : Int) (hmx : ak_S), ak_WR u p hc hm hc' (am_up hmx.1 q (9000 * p + y) x, hmx.2) → ak_goI e (dd + 2) ρ 232 [am_r 110] hm x hmx → X 0 hc') :
    ak_MV e 0 (dd + 1) [ρ0, ak_T u, ak_T u + 1, ρ3, ρ4] 20 [am_r 2, am_i (o : Int)] hc Q X := by
  refine ak_MV_imp (lk_body hd hu hS w hz pt ht) (fun hc3 R => ?_) (fun ex hcx R => ?_)
  · obtain ⟨D3, z3, x, hm3, ⟨I3, l3, r3, e3, d3, T3⟩, go3⟩ := R
    exact ok D3 z3 x hc3 hm3 (ak_PI_cell hu I3 (Or.inl (by omega))) l3 r3 e3 d3 ⟨hc3, hm3, ak_mid_cell ak_mid_refl (by omega) (Or.inl (by omega)), T3⟩ go3
  · obtain ⟨hx, x, hmx, wr, go3⟩ := R
    subst hx
    exact bad hcx x hmx (ak_WR_cell wr (by omega) (by omega) (by omega)) go3
theorem lk_link {ρ0 ρ3 ρ4 t : Nat} {kd nk r : Int} (hu : u = 0 ∨ u = 1) (hE : ak_EX e u p b n m ρ0 ρ3 ρ4 ρ 34 222 13 13 t) (w : ak_PI u p b n m lv D o Mt z hc hm) (pt : ak_POT b n o 1 z) (ht : m ≤ z 0 + t) (hk : ak_kd b n (ak_st b n (z 0)) = kd)
    (hr : (kd = 216 ∧ nk = 27 ∧ r = 24) ∨ (kd = 217 ∧ nk = 28 ∧ r = 25)) :
    ak_MV e 0 (d + 20 * (20 - o) + 24) [ρ0, ak_T u, ak_T u + 1, ρ3, ρ4] 27 [am_r 2, am_i kd, am_i (o : Int)] hc (ak_KQ e ρ (d + 20 * (20 - o) + 25) u p b n m lv D o Mt z hc hm) (ak_XX e ρ (d + 20 * (20 - o) + 25) 233 u p hc hm) := by
  have tk : hm.1 110 33 = kd := w.2.1.2.2.1.trans hk
  have p34 := w.2.1.2.2.2.1
  have hp := w.2.1.1.1
  have hp2 := w.2.1.1.2.1
  have rm := ak_room w (by decide) pt
  have bv : 0 ≤ ((9000 * p + z 2 : Nat) : Int) ∧ ((9000 * p + z 2 : Nat) : Int) < 18000 := by omega
  have run : ∀ (Q : Int → ak_S → Prop) (X : Nat → ak_S → Prop), ak_MV e 1 (d + 20 * (20 - o) + 24) ρ 205 [am_r 110] (ak_node hm p (z 2) nk ((ak_st b n (z 0) : Nat) : Int)) (fun h3 =>
      ak_MI e 1 (d + 20 * (20 - o) + 24) ρ 222 [am_r 110] h3 (fun v5 h4 =>
        ak_MV e 1 (d + 20 * (20 - o) + 24) ρ 209 [am_r 110, am_i 44] ((am_up h4.1 115 (9000 * p + z 2) v5), h4.2) (fun h6 =>
          ak_MI e 1 (d + 20 * (20 - o) + 24) ρ 222 [am_r 110] h6 (fun v8 h7 =>
            ak_MV e 1 (d + 20 * (20 - o) + 24) ρ 209 [am_r 110, am_i 59] ((am_up h7.1 116 (9000 * p + z 2) v8), h7.2) (fun h9 =>
              Q ((9000 * p + z 2 : Nat) : Int) h9) (fun _ _ => False)) (fun _ _ => False)) (fun _ _ => False)) (fun _ _ => False)) (fun _ _ => False) → ak_MI e 1 (d + 20 * (20 - o) + 25) ρ 233 [am_r 110] hm Q X := by
    intro Q X g
    have g2 : ak_W0 e 1 (d + 20 * (20 - o) + 24) 233 ρ 410 [some (am_r 110), some (am_i (hm.1 110 34)), none, none, none, none, none, none] [am_i nk, am_r 110] hm (ak_qi Q X) := by
      rw [p34]
      refine am_k233_410 (am_s212 hp hp2 w.2.2.2.2.2.2.2.2.2.1 (by omega) (ak_MV_imp g (fun h3 g2 => ak_MI_imp g2 (fun v5 h4 g3 => ⟨bv, ?_⟩) (fun _ _ q => q)) (fun _ _ q => q)))
      rw [ak_natn]
      exact ak_MV_imp g3 (fun h6 g4 => ak_MI_imp g4 (fun v8 h7 g5 => ⟨bv, g5⟩) (fun _ _ q => q)) (fun _ _ q => q)
    rcases hr with ⟨rfl, rfl, -⟩ | ⟨rfl, rfl, -⟩
    · exact am_p233_216 tk g2
    · exact am_p233_217 tk g2
  have w1 := ak_PI_node hu w (k := nk) (r := ((ak_st b n (z 0) : Nat) : Int))
  have e1 : ak_ext u p z (ak_zu z 2 (z 2 + 1)) hc hm hc (ak_node hm p (z 2) nk ((ak_st b n (z 0) : Nat) : Int)) := ak_ext_node (by omega)
  have n1 : ak_nd (ak_node hm p (z 2) nk ((ak_st b n (z 0) : Nat) : Int)) (9000 * p + z 2) nk (-1) (-1) (-1) (-1) (-1) ((ak_st b n (z 0) : Nat) : Int) := ak_nd_new
  refine ak_MV_of (Nat.le_of_ble_eq_true rfl) (am_k27_0 hu (lk_adv (dm := d + 20 * (20 - o) + 21) (ρ := ρ) hu w1 (show ak_kd b n (ak_st b n (z 0)) ≠ 0 by omega) (fun hc2 hm2 I2 fr fr' e2 su rd => ?_)))
  have su' : ak_st b n (z 0) + 1 ≤ ak_st b n (z 0 + 1) := su
  have n2 := ak_nd_ext e2 (show z 2 < z 2 + 1 by omega) n1
  have e12 := ak_ext_trans e1 e2
  have pt2 : ak_POT b n o 2 (ak_zu (ak_zu z 2 (z 2 + 1)) 0 (z 0 + 1)) := by
    unfold ak_POT at pt ⊢
    show 2 * z 1 ≤ 3 * ak_st b n (z 0 + 1) + z 5 + 10 * o + 3 * 2 ∧ z 2 + 1 ≤ ak_st b n (z 0 + 1) + 2 * o + 2 ∧ 13 * z 3 ≤ ak_st b n (z 0 + 1) + 13 * o ∧ 6 * z 4 ≤ ak_st b n (z 0 + 1)
    omega
  refine lk_ecell (q := 115) (y := z 2) (dd := d + 20 * (20 - o) + 23) hu (by decide) (by omega) hE I2 pt2 (show m ≤ z 0 + 1 + t by omega) (show z 2 < z 2 + 1 by omega) (fun z3 x hc3 hm3 I3 l3 r3 pt3 rm3 e3 s3 go3 => ?_) (fun hcx x hmx wr go3 => ?_)
  · have le3 := ak_ext_le e3
    have le3' : z 2 + 1 ≤ z3 2 := le3.2.2.1
    have le31 : z 1 ≤ z3 1 := le3.2.1
    have le33 : z 3 ≤ z3 3 := le3.2.2.2.1
    have le34 : z 4 ≤ z3 4 := le3.2.2.2.2.1
    have le35 : z 5 ≤ z3 5 := le3.2.2.2.2.2.1
    have l3' : z 0 + 1 < z3 0 := l3
    have r3' : 2 * z3 1 + 1 + 3 * ak_st b n (z 0 + 1) + z 5 ≤ 2 * z 1 + 3 * ak_st b n (z3 0) + z3 5 ∧ z3 2 + ak_st b n (z 0 + 1) ≤ z 2 + 1 + ak_st b n (z3 0) ∧ 13 * z3 3 + ak_st b n (z 0 + 1) ≤ 13 * z 3 + ak_st b n (z3 0) ∧ 6 * z3 4 + ak_st b n (z 0 + 1) ≤ 6 * z 4 + ak_st b n (z3 0) := r3
    have n3 := ak_nd_115 (v := x) (ak_nd_ext e3 (show z 2 < z 2 + 1 by omega) n2)
    have e3c := ak_ext_cell (ak_ext_trans e12 e3) (q := 115) (k := 9000 * p + z 2) (v := x) (by decide) (Nat.le_refl _) (by omega)
    refine lk_pass2 (dm := d + 20 * (20 - o) + 20) (ρ := ρ) hu (by decide) I3 (by omega) (fun hc4 hm4 h44 I4 e4 su4 ps => ?_) (fun wr ps => ?_)
    · have s4 := ak_sub_ext s3 e4
      have n4 := ak_nd_ext e4 (show z 2 < z3 2 by omega) n3
      have e04 := ak_ext_trans e3c e4
      have su4' : ak_st b n (z3 0) + 1 ≤ ak_st b n (z3 0 + 1) := su4
      have pt4 := ak_POT_step I3.1 (ak_cc_lt I3.1 (by rw [h44]; decide)) pt3
      refine lk_ecell (q := 116) (y := z 2) (dd := d + 20 * (20 - o) + 23) hu (by decide) (by omega) hE I4 pt4 (show m ≤ z3 0 + 1 + t by omega) (show z 2 < z3 2 by omega) (fun z5 x5 hc5 hm5 I5 l5 r5 pt5 rm5 e5 s5 go5 => ?_) (fun hcx x5 hmx wr go5 => ?_)
      · have le5 := ak_ext_le e5
        have le52 : z3 2 ≤ z5 2 := le5.2.2.1
        have le51 : z3 1 ≤ z5 1 := le5.2.1
        have le54 : z3 4 ≤ z5 4 := le5.2.2.2.2.1
        have l5' : z3 0 + 1 < z5 0 := l5
        have r5' : 2 * z5 1 + 1 + 3 * ak_st b n (z3 0 + 1) + z3 5 ≤ 2 * z3 1 + 3 * ak_st b n (z5 0) + z5 5 ∧ z5 2 + ak_st b n (z3 0 + 1) ≤ z3 2 + ak_st b n (z5 0) ∧ 13 * z5 3 + ak_st b n (z3 0 + 1) ≤ 13 * z3 3 + ak_st b n (z5 0) ∧ 6 * z5 4 + ak_st b n (z3 0 + 1) ≤ 6 * z3 4 + ak_st b n (z5 0) := r5
        have n5 := ak_nd_116 (v := x5) (ak_nd_ext e5 (show z 2 < z3 2 by omega) n4)
        have e5c := ak_ext_cell (ak_ext_trans e04 e5) (q := 116) (k := 9000 * p + z 2) (v := x5) (by decide) (Nat.le_refl _) (by omega)
        have s45 := ak_sub_cell (ak_sub_ext s4 e5) (q := 116) (j := 9000 * p + z 2) (v := x5) (by decide) (Or.inl (show 9000 * p + z 2 < 9000 * p + (z 2 + 1) by omega))
        refine lk_pass2 (dm := d + 20 * (20 - o) + 20) (ρ := ρ) hu (by decide) I5 (by omega) (fun hc6 hm6 _ I6 e6 su6 ps6 => ?_) (fun wr ps6 => ?_)
        · have su6' : ak_st b n (z5 0) + 1 ≤ ak_st b n (z5 0 + 1) := su6
          have n6 := ak_nd_ext e6 (show z 2 < z5 2 by omega) n5
          have I7 := ak_PI_put hu I6 (r := r) (x := 0)
          have e7 : ak_ext u p (ak_zu z5 0 (z5 0 + 1)) (ak_zu (ak_zu z5 0 (z5 0 + 1)) 1 (z5 1 + 1)) hc6 hm6 (ak_put hc6 u (z5 1) r 0) hm6 := ak_ext_put hu
          have e67 := ak_ext_trans e6 e7
          have n7 := ak_nd_ext e7 (show z 2 < z5 2 by omega) n6
          have sA := ak_sub_ext s45 e67
          have sB := ak_sub_ext s5 e67
          have fin : ak_KQ e ρ (d + 20 * (20 - o) + 25) u p b n m lv D o Mt z hc hm (ak_put hc6 u (z5 1) r 0) := by
            refine ⟨D, _, z 2, hm6, ⟨I7, show z 0 < z5 0 + 1 by omega, ?_, ak_ext_trans e5c e67, fun _ _ => rfl, Nat.le_refl _, show z 2 < z5 2 by omega, n7.2.2.2.2.2.1, n7.2.2.2.2.2.2, fun C M ft => ?_⟩, fun Q X g => run Q X (rd _ _ (go3 _ _ (ps _ _ (go5 _ _ (ps6 _ _ g)))))⟩
            · show 2 * (z5 1 + 1) + 2 + 3 * ak_st b n (z 0) + z 5 ≤ 2 * z 1 + 3 * ak_st b n (z5 0 + 1) + z5 5 ∧ z5 2 + ak_st b n (z 0) ≤ z 2 + ak_st b n (z5 0 + 1) ∧ 13 * z5 3 + ak_st b n (z 0) ≤ 13 * z 3 + ak_st b n (z5 0 + 1) ∧ 6 * z5 4 + ak_st b n (z 0) ≤ 6 * z 4 + ak_st b n (z5 0 + 1)
              omega
            · have tA := ak_sub_T sA ft (show z 1 ≤ z 1 ∧ z 2 ≤ z 2 + 1 ∧ z 3 ≤ z 3 ∧ z 4 ≤ z 4 ∧ z 5 ≤ z 5 by omega) (show z 4 ≤ z3 4 from le34) (Or.inl (show ((9000 * p + z 2 : Nat) : Int) < ((9000 * p + (z 2 + 1) : Nat) : Int) by omega))
              have tB := ak_sub_T sB ft (show z 1 ≤ z3 1 ∧ z 2 ≤ z3 2 ∧ z 3 ≤ z3 3 ∧ z 4 ≤ z3 4 ∧ z 5 ≤ z3 5 by omega) (show z 4 ≤ z5 4 by omega) (Or.inl (show ((9000 * p + z 2 : Nat) : Int) < ((9000 * p + z3 2 : Nat) : Int) by omega))
              obtain ⟨m1, m2, m3, m4, m5, m6⟩ := ak_nd_M n7 ft (Nat.le_refl _) (show z 2 < z5 2 by omega)
              have c2 := (ft.1.1 (z5 1) (show z 1 ≤ z5 1 by omega) (Nat.lt_succ_self _)).1.trans ak_put_2
              have tA' : ak_X0 C M (ak_T u) p (ak_hx 222 o) (z3 2 - (z 2 + 1)) x (ak_lt Mt lv) (z 1) (z3 1) := tA
              have tB' : ak_X0 C M (ak_T u) p (ak_hx 222 o) (z5 2 - z3 2) x5 (ak_lt Mt lv) (z3 1) (z5 1) := tB
              intro Gd i hG hG2 hi
              have hi' : z5 2 - z 2 + 21 ≤ i + o := hi
              have ho := (ak_st_n w).2.2.1
              rw [← m2] at tA'
              rw [← m3] at tB'
              refine ak_T3_fold ⟨_, rfl, Or.inr (Or.inr (Or.inr (Or.inr (Or.inr (Or.inr (Or.inr (Or.inl ⟨?_, z3 1, z5 1, ak_RX2_mk tA' tB' (ak_lt_lt w) ak_hx_150 ak_hx_150 (by omega), ?_, rfl⟩)))))))⟩
              · rcases hr with ⟨-, h2, -⟩ | ⟨-, h2, -⟩
                · exact Or.inl (m1.trans h2)
                · exact Or.inr (m1.trans h2)
              · rw [m1]
                rcases hr with ⟨-, h2, h3⟩ | ⟨-, h2, h3⟩ <;> omega
          have sz := I6.2.2.2.2.2.2.2.2.1
          rcases hr with ⟨h1, h2, h3⟩ | ⟨h1, h2, h3⟩
          · subst h1
            subst h3
            exact ⟨fun q => absurd rfl q, fun _ => am_s3 hu sz (show z5 1 < 9600 by omega) fin⟩
          · subst h1
            subst h3
            exact ⟨fun _ => am_s3 hu sz (show z5 1 < 9600 by omega) fin, fun q => absurd q (by decide)⟩
        · exact ⟨rfl, _, _, ak_WR_ext w I5 (Nat.le_refl _) e5c wr, fun Q X g => run Q X (rd _ _ (go3 _ _ (ps _ _ (go5 _ _ (ps6 _ _ g)))))⟩
      · exact ⟨rfl, _, _, ak_WR_ext w I4 (Nat.le_refl _) e04 wr, fun Q X g => run Q X (rd _ _ (go3 _ _ (ps _ _ (go5 _ _ (am_s209w wr.1 g)))))⟩
    · have wr2 := ak_WR_cell wr (q := 116) (k := 9000 * p + z 2) (v := -1) (by decide) (by omega) (by omega)
      exact ⟨rfl, _, _, ak_WR_ext w I3 (Nat.le_refl _) e3c wr2, fun Q X g => run Q X (rd _ _ (go3 _ _ (ps _ _ (am_w222 wr.1 (am_s209w wr2.1 g)))))⟩
  · have wr2 := ak_WR_cell wr (q := 116) (k := 9000 * p + z 2) (v := -1) (by decide) (by omega) (by omega)
    exact ⟨rfl, _, _, ak_WR_ext w I2 (Nat.le_refl _) e12 wr2, fun Q X g => run Q X (rd _ _ (go3 _ _ (am_s209w wr.1 (am_w222 wr.1 (am_s209w wr2.1 g)))))⟩
end SUB
