/-! a block literal, whole -/
section LKLT
variable {e : ak_X3} {d u p : Nat} {b : Nat → Int} {n m lv o Mt : Nat} {D D2 : Nat → Nat} {z z2 : Nat → Nat} {hc hm hc2 hm2 : ak_S} {ρ : List Nat}
theorem ak_WR_M {hc' hm' : ak_S} (w : ak_WR u p hc hm hc' hm') {q k : Nat} {v : Int} (hq : (q = 125 ∨ q = 126) ∧ 40 * p ≤ k ∧ k < 40 * p + 40 ∨ (q = 135 ∨ q = 136) ∧ 60 * p ≤ k ∧ k < 60 * p + 60) : ak_WR u p hc hm hc' (am_up hm'.1 q k v, hm'.2) := by
  obtain ⟨w1, w2, w3, w4, w5, w6, w7, w8⟩ := w
  have e1 : am_up hm'.1 q k v 110 37 = hm'.1 110 37 := ak_up_out (by omega)
  have e2 : am_up hm'.1 q k v 121 p = hm'.1 121 p := ak_up_out (by omega)
  refine ⟨?_, ?_, w3, ak_pM_upI w4 ?_, ?_, ?_, w7, w8⟩
  · show 0 ≤ am_up hm'.1 q k v 110 37
    rw [e1]; exact w1
  · show am_up hm'.1 q k v 110 37 = _
    rw [e1]; exact w2
  · rcases hq with ⟨h1, h2, h3⟩ | ⟨h1, h2, h3⟩
    · exact Or.inr (Or.inr (Or.inr (Or.inl ⟨by omega, by omega, h2, h3⟩)))
    · exact Or.inr (Or.inr (Or.inr (Or.inr (Or.inr (Or.inr (Or.inl ⟨h1, h2, h3⟩))))))
  · show 0 ≤ am_up hm'.1 q k v 121 p
    rw [e2]; exact w5
  · show am_up hm'.1 q k v 121 p + _ ≤ _
    rw [e2]; exact w6
theorem ak_WR_note {hc' hm' : ak_S} (w : ak_WR u p hc hm hc' hm') {v : Int} : ak_WR u p hc hm hc' (am_up hm'.1 110 42 v, hm'.2) := by
  obtain ⟨w1, w2, w3, w4, w5, w6, w7, w8⟩ := w
  have e1 : am_up hm'.1 110 42 v 110 37 = hm'.1 110 37 := ak_up_out (by omega)
  have e2 : am_up hm'.1 110 42 v 121 p = hm'.1 121 p := ak_up_out (by omega)
  refine ⟨?_, ?_, w3, ak_pM_upI w4 (Or.inl ⟨rfl, by omega⟩), ?_, ?_, w7, w8⟩
  · show 0 ≤ am_up hm'.1 110 42 v 110 37
    rw [e1]; exact w1
  · show am_up hm'.1 110 42 v 110 37 = _
    rw [e1]; exact w2
  · show 0 ≤ am_up hm'.1 110 42 v 121 p
    rw [e2]; exact w5
  · show am_up hm'.1 110 42 v 121 p + _ ≤ _
    rw [e2]; exact w6
/-- statements up to a bracket: what is had; the one has passed the bracket, the other not yet -/
def ak_SP (u p : Nat) (b : Nat → Int) (n m lv : Nat) (D : Nat → Nat) (o Mt : Nat) (z : Nat → Nat) (hc hm : ak_S) (D' z' : Nat → Nat) (x : Int) (hc' hm' : ak_S) : Prop :=
  ak_PI u p b n m lv D' o Mt z' hc' hm' ∧ z 0 ≤ z' 0 ∧ ak_REL b n 0 z z' ∧ ak_ext u p z z' hc hm hc' hm' ∧ (∀ s, s < lv → D' s = D s) ∧ ∀ C M, ak_fut u p z z' (-1) hc'.1 hm'.1 C M → ak_X2 C M (ak_T u) p o (z' 2 - z 2) x (ak_lt Mt lv) (z 1) (z' 1)
def ak_SX (e : ak_X3) (u p : Nat) (b : Nat → Int) (n m ρ0 ρ3 ρ4 : Nat) (ρ : List Nat) (t : Nat) : Prop :=
  ∀ (lv : Nat) (D : Nat → Nat) (o Mt : Nat) (z : Nat → Nat) (hc hm : ak_S) (d : Nat) (cl : Int), ak_PI u p b n m lv D o Mt z hc hm → ak_POT b n o 0 z → m ≤ z 0 + t → cl = 93 ∨ cl = 125 → 1 ≤ z 0 →
    ak_MV e 0 (d + 20 * (20 - o) + 26) [ρ0, ak_T u, ak_T u + 1, ρ3, ρ4] 21 [am_r 2, am_i cl, am_i (o : Int)] hc
      (fun hc' => ∃ (D' z' : Nat → Nat) (x : Int) (hcB hm' : ak_S), ak_SP u p b n m lv D o Mt z hc hm D' z' x hcB hm' ∧ ak_kd b n (ak_st b n (z' 0)) = cl ∧ ak_cc b n m hc' (z' 0 + 1) ∧ ak_afr hcB hc' ∧ ak_goI e (d + 20 * (20 - o) + 26) ρ 231 [am_r 110, am_i cl] hm x hm')
      (fun ex hc' => ex = 0 ∧ ∃ (x : Int) (hm' : ak_S), ak_WRs u p hc hm hc' hm' ∧ ak_goI e (d + 20 * (20 - o) + 26) ρ 231 [am_r 110, am_i cl] hm x hm')
theorem lk_lit_tail {ρ0 ρ3 ρ4 t k : Nat} (hu : u = 0 ∨ u = 1) (hS : ak_SX e u p b n m ρ0 ρ3 ρ4 ρ t) (hk : k ≤ 4) (w : ak_PI u p b n m lv D o Mt z hc hm) (pt : ak_POT b n o 2 z) (ho : o < 20) (I2 : ak_PI u p b n m (lv + 1) D2 (o + 1) Mt z2 hc2 hm2) (e2 : ak_ext u p z z2 hc hm hc2 hm2) (hd2 : ∀ s, s ≤ lv → D2 s = D s)
    (q1 : z2 1 = z 1 + 2) (q2 : z2 2 = z 2) (q3 : z2 3 = z 3) (q4 : z2 4 = z 4) (q5 : z2 5 = z 5 + 1) (su : ak_st b n (z 0) + 1 ≤ ak_st b n (z2 0)) (l2 : z 0 < z2 0) (f1 : hc2.1 (ak_T u + 2) (z 1) = 7) (f2 : hc2.1 (ak_T u + 3) (z 1) = (z 5 : Int)) (f3 : hc2.1 (ak_T u + 2) (z 1 + 1) = 30) (ht : m ≤ z2 0 + t)
    (G : ∀ (Q : Int → ak_S → Prop) (X : Nat → ak_S → Prop), ak_W0 e 1 (d + 20 * (20 - o) + 6) 229 ρ 116 [some (am_r 110), some (am_i ((60 * p + z 5 : Nat) : Int)), some (am_i (k : Int)), none] [] hm2 (ak_qi Q X) → ak_MI e 1 (d + 20 * (20 - o) + 7) ρ 229 [am_r 110] hm Q X) :
    ak_W0 e 0 (d + 20 * (20 - o) + 6) 47 [ρ0, ak_T u, ak_T u + 1, ρ3, ρ4] 124 [some (am_r 2), some (am_i (o : Int)), some (am_i (z 5 : Int)), some (am_i ((z 1 + 1 : Nat) : Int)), some (am_i (k : Int))] [] hc2 (ak_qv (ak_XQ e ρ (d + 20 * (20 - o) + 7) 229 u p b n m lv D o Mt z hc hm) (ak_XX e ρ (d + 20 * (20 - o) + 7) 229 u p hc hm)) := by
  have hT := ak_T_in hu
  have hlo := ak_lvo w
  have h60 : z 5 < 60 := by have := I2.2.2.2.2.2.2.2.2.2.2.2.2.2.2.1; omega
  have hp2 := w.2.1.1.2.1
  have sz := I2.2.2.2.2.2.2.2.2.1
  have m6 := I2.2.2.2.2.2.2.2.2.2.2.2.2.2.2.2.1
  have b60 : 0 ≤ (z 5 : Int) ∧ (z 5 : Int) < 60 := by omega
  have b120 : 0 ≤ ((60 * p + z 5 : Nat) : Int) ∧ ((60 * p + z 5 : Nat) : Int) < 120 := by omega
  have IS := ak_PI_M hu (ak_PI_C hu (ak_PI_C hu (ak_PI_C hu I2 (q := ak_T u + 18) (k := z 5) (v := (k : Int)) (Or.inr (by omega))) (q := ak_T u + 20) (k := z 5) (v := hc2.1 2 6) (Or.inr (by omega))) (q := ak_T u + 19) (k := z 5) (v := (z2 1 : Int)) (Or.inr (by omega))) (q := 136) (k := 60 * p + z 5) (v := (k : Int)) (Or.inr rfl)
  have eS := ak_ext_M (ak_ext_C (ak_ext_C (ak_ext_C e2 (q := ak_T u + 18) (k := z 5) (v := (k : Int)) hu (by omega) (by omega) (by omega) (by omega) (fun _ => Nat.le_refl _) (by omega)) (q := ak_T u + 20) (k := z 5) (v := hc2.1 2 6) hu (by omega) (by omega) (by omega) (by omega) (fun _ => Nat.le_refl _) (by omega)) (q := ak_T u + 19) (k := z 5) (v := (z2 1 : Int)) hu (by omega) (by omega) (by omega) (by omega) (fun _ => Nat.le_refl _) (by omega)) (q := 136) (k := 60 * p + z 5) (v := (k : Int)) (Or.inr ⟨Or.inr rfl, Nat.le_refl _, by omega⟩)
  have ptS : ak_POT b n (o + 1) 0 z2 := by
    unfold ak_POT at pt ⊢
    omega
  have ed : d + 20 * (20 - (o + 1)) + 26 = d + 20 * (20 - o) + 6 := by omega
  have key := hS (lv + 1) D2 (o + 1) Mt z2 _ _ d 93 IS ptS ht (Or.inl rfl) (by omega)
  rw [ed] at key
  refine am_k47_124 hu ⟨b60, b60, b60, ?_⟩
  rw [ak_natn, sz, ak_wj (show o < 1000000 by omega)]
  generalize hcS : ((am_up (am_up (am_up hc2.1 (ak_T u + 18) (z 5) (k : Int)) (ak_T u + 20) (z 5) (hc2.1 2 6)) (ak_T u + 19) (z 5) (z2 1 : Int), hc2.2) : ak_S) = cS at *
  generalize hmS : ((am_up hm2.1 136 (60 * p + z 5) (k : Int), hm2.2) : ak_S) = mS at *
  have G2 : ∀ (Q : Int → ak_S → Prop) (X : Nat → ak_S → Prop), ak_MI e 1 (d + 20 * (20 - o) + 6) ρ 231 [am_r 110, am_i 93] mS (fun v2 h1 =>
    (0 ≤ ((60 * p + z 5 : Nat) : Int) ∧ ((60 * p + z 5 : Nat) : Int) < (120 : Int)) ∧ ak_MV e 1 (d + 20 * (20 - o) + 6) ρ 211 [am_r 110, am_i 93] ((am_up h1.1 135 (60 * p + z 5) v2), h1.2) (fun h3 =>
      ak_MI e 1 (d + 20 * (20 - o) + 6) ρ 206 [am_r 110] ((am_up h3.1 110 42 (am_w32 ((h3.1 110 42) - 1))), h3.2) (fun v5 h4 =>
        (v5 = 0 →
          ak_MI e 1 (d + 20 * (20 - o) + 6) ρ 212 [am_r 110, am_i 13, am_i 0] h4 (fun v7 h6 =>
            (0 ≤ v7 ∧ v7 < (18000 : Int)) ∧ Q v7 ((am_up h6.1 115 v7.toNat (am_w32 (((60 * p + z 5 : Nat) : Int) - (am_w32 (60 * (h6.1 110 31)))))), h6.2)) (fun _ _ => False))
        ∧ (v5 ≠ 0 →
          Q ((-1)) h4)) (fun _ _ => False)) (fun _ _ => False)) (fun _ _ => False) → ak_MI e 1 (d + 20 * (20 - o) + 7) ρ 229 [am_r 110] hm Q X := by
    intro Q X g
    refine G Q X (am_k229_116 ⟨b120, ?_⟩)
    rw [ak_natn, hmS]
    exact g
  refine ak_MV_imp key (fun hc4 R => ?_) (fun ex hcx R => ?_)
  · obtain ⟨D', z3, x, hcB, hmB, ⟨I3, l3, r3, e3, d3, T3⟩, k93, C4, fr4, go⟩ := R
    have le3 := ak_ext_le e3
    have le2 := ak_ext_le e2
    have su3 := ak_st_up I3.1 (ak_cc_lt I3.1 (by rw [k93]; decide))
    have r3' := r3
    unfold ak_REL at r3'
    have IB := ak_PI_M hu I3 (q := 135) (k := 60 * p + z 5) (v := x) (Or.inl rfl)
    obtain ⟨hmC, IC, cl, same, m42, m31, m37, pmC, hpC⟩ := lk_close_lv (e := e) (ρ := ρ) (dm := d + 20 * (20 - o) + 1) hu IB hlo k93 C4 fr4
    have sz4 : hc4.1 (ak_T u + 1) 2 = (z3 1 : Int) := (fr4.1 _ _ (by omega)).trans I3.2.2.2.2.2.2.2.2.1
    have pt4 : ak_POT b n o 2 (ak_zu z3 0 (z3 0 + 1)) := by
      unfold ak_POT at pt ⊢
      show 2 * z3 1 ≤ 3 * ak_st b n (z3 0 + 1) + z3 5 + 10 * o + 3 * 2 ∧ z3 2 ≤ ak_st b n (z3 0 + 1) + 2 * o + 2 ∧ 13 * z3 3 ≤ ak_st b n (z3 0 + 1) + 13 * o ∧ 6 * z3 4 ≤ ak_st b n (z3 0 + 1)
      omega
    have rm := ak_room IC (by decide) pt4
    have rm1 : z3 1 < 9200 := rm.1
    have rm2 : z3 2 < 6060 := rm.2
    refine am_s3 hu sz4 (by omega) (am_s4 hu (show z 1 + 1 < 9600 by omega) (show (ak_put hc4 u (z3 1) 34 0).1 (ak_T u + 1) 2 = ((z3 1 + 1 : Nat) : Int) from ak_up_at1) ?_)
    -- where it ends
    have IP := ak_PI_D (ak_PI_C hu (ak_PI_put hu IC (r := 34) (x := 0)) (q := ak_T u + 3) (k := z 1 + 1) (v := ((z3 1 + 1 : Nat) : Int)) (Or.inl (by omega))) (D := D) (fun s hs => (d3 s (by omega)).trans (hd2 s hs))
    have IN := ak_PI_cell hu (ak_PI_node hu IP (k := 13) (r := 0)) (q := 115) (k := 9000 * p + z3 2) (v := (z 5 : Int)) (Or.inl (by decide))
    have comm : am_up (am_up (am_up (am_up (am_up hc4.1 2 5 (lv : Int)) (ak_T u + 2) (z3 1) 34) (ak_T u + 3) (z3 1) 0) (ak_T u + 1) 2 ((z3 1 + 1 : Nat) : Int)) (ak_T u + 3) (z 1 + 1) ((z3 1 + 1 : Nat) : Int) = am_up (ak_land (ak_put hc4 u (z3 1) 34 0) u (z 1 + 1) ((z3 1 + 1 : Nat) : Int)).1 2 5 (lv : Int) := by
      show _ = am_up (am_up (am_up (am_up (am_up hc4.1 (ak_T u + 2) (z3 1) 34) (ak_T u + 3) (z3 1) 0) (ak_T u + 1) 2 ((z3 1 + 1 : Nat) : Int)) (ak_T u + 3) (z 1 + 1) ((z3 1 + 1 : Nat) : Int)) 2 5 (lv : Int)
      rw [ak_up_comm (f := hc4.1) (q := 2) (k := 5) (by omega), ak_up_comm (q := 2) (k := 5) (q' := ak_T u + 3) (k' := z3 1) (by omega), ak_up_comm (q := 2) (k := 5) (q' := ak_T u + 1) (by omega), ak_up_comm (q := 2) (k := 5) (q' := ak_T u + 3) (k' := z 1 + 1) (by omega)]
    have h25 : (ak_land (ak_put hc4 u (z3 1) 34 0) u (z 1 + 1) ((z3 1 + 1 : Nat) : Int)).1 2 5 = ((lv + 1 : Nat) : Int) := by
      show am_up (am_up (am_up (am_up hc4.1 (ak_T u + 2) (z3 1) 34) (ak_T u + 3) (z3 1) 0) (ak_T u + 1) 2 ((z3 1 + 1 : Nat) : Int)) (ak_T u + 3) (z 1 + 1) ((z3 1 + 1 : Nat) : Int) 2 5 = _
      rw [ak_up_out (by omega), ak_up_out (by omega), ak_up_out (by omega), ak_up_out (by omega), fr4.1 _ _ (by omega)]
      exact I3.2.2.2.2.1.1
    rw [h25, show am_w32 (((lv + 1 : Nat) : Int) - 1) = (lv : Int) from ak_wlv (by have := ak_lvo I3; omega)]
    have IN' : ak_PI u p b n m lv D o Mt (ak_zu (ak_zu (ak_zu z3 0 (z3 0 + 1)) 1 (z3 1 + 1)) 2 (z3 2 + 1)) (am_up (ak_land (ak_put hc4 u (z3 1) 34 0) u (z 1 + 1) ((z3 1 + 1 : Nat) : Int)).1 2 5 (lv : Int), hc4.2)
        (am_up (ak_node (am_up hmC.1 110 42 ((lv + 1 : Nat) : Int), hmC.2) p (z3 2) 13 0).1 115 (9000 * p + z3 2) (z 5 : Int), (ak_node (am_up hmC.1 110 42 ((lv + 1 : Nat) : Int), hmC.2) p (z3 2) 13 0).2) := by
      rw [← comm]; exact IN
    -- the one's orders behind
    have hY : ∀ q k, ¬ (q = ak_T u + 2 ∧ k = z3 1) → ¬ (q = ak_T u + 3 ∧ k = z3 1) → ¬ (q = ak_T u + 1 ∧ k = 2) → ¬ (q = 3 ∧ 7 ≤ k ∧ k ≤ 9) → ¬ (q = 2 ∧ k = 5) → (am_up (ak_land (ak_put hc4 u (z3 1) 34 0) u (z 1 + 1) ((z3 1 + 1 : Nat) : Int)).1 2 5 (lv : Int)) q k = am_up hcB.1 (ak_T u + 3) (z 1 + 1) ((z3 1 + 1 : Nat) : Int) q k := by
      intro q k' h1 h2 h3 h4 h5
      rw [ak_up_out h5]
      show am_up (am_up (am_up (am_up hc4.1 (ak_T u + 2) (z3 1) 34) (ak_T u + 3) (z3 1) 0) (ak_T u + 1) 2 ((z3 1 + 1 : Nat) : Int)) (ak_T u + 3) (z 1 + 1) ((z3 1 + 1 : Nat) : Int) q k' = _
      refine ak_up_congr ?_
      rw [ak_up_out h3, ak_up_out h2, ak_up_out h1, fr4.1 _ _ h4]
    have eY : ak_ext u p z z3 hc hm (am_up hcB.1 (ak_T u + 3) (z 1 + 1) ((z3 1 + 1 : Nat) : Int), hcB.2) (am_up hmB.1 135 (60 * p + z 5) x, hmB.2) :=
      ak_ext_M (ak_ext_C (ak_ext_trans eS e3) hu (by omega) (fun _ => by omega) (by omega) (by omega) (by omega) (by omega)) (Or.inr ⟨Or.inl rfl, Nat.le_refl _, by omega⟩)
    have nX : ∀ q k, q ≠ 110 → ¬ (114 ≤ q ∧ q ≤ 120 ∧ k = 9000 * p + z3 2) → ¬ (q = 121 ∧ k = p) → am_up (ak_node (am_up hmC.1 110 42 ((lv + 1 : Nat) : Int), hmC.2) p (z3 2) 13 0).1 115 (9000 * p + z3 2) (z 5 : Int) q k = am_up hmB.1 135 (60 * p + z 5) x q k := by
      intro q k' h1 h2 h3
      rw [ak_up_out (by omega), ak_node_at h2 h3]
      exact (ak_up_out1 (fun g => h1 g.1)).trans (same q k' h1)
    have eF : ak_ext u p z3 (ak_zu (ak_zu (ak_zu z3 0 (z3 0 + 1)) 1 (z3 1 + 1)) 2 (z3 2 + 1)) (am_up hcB.1 (ak_T u + 3) (z 1 + 1) ((z3 1 + 1 : Nat) : Int), hcB.2) (am_up hmB.1 135 (60 * p + z 5) x, hmB.2)
        (am_up (ak_land (ak_put hc4 u (z3 1) 34 0) u (z 1 + 1) ((z3 1 + 1 : Nat) : Int)).1 2 5 (lv : Int), hc4.2) (am_up (ak_node (am_up hmC.1 110 42 ((lv + 1 : Nat) : Int), hmC.2) p (z3 2) 13 0).1 115 (9000 * p + z3 2) (z 5 : Int), (ak_node (am_up hmC.1 110 42 ((lv + 1 : Nat) : Int), hmC.2) p (z3 2) 13 0).2) := by
      refine ak_ext_of (ak_le8 (Nat.le_succ _) (Nat.le_succ _) (Nat.le_succ _) (Nat.le_refl _) (Nat.le_refl _) (Nat.le_refl _) (Nat.le_refl _) (Nat.le_refl _)) (fun q k' h1 h2 h3 h4 h5 h6 h7 => hY q k' (by omega) (by omega) (by omega) (by omega) (by omega)) (fun q k' h1 h2 h3 h4 h5 h6 => nX q k' (by omega) (by omega) (by omega)) (fun j h1 h2 => absurd (show j < z3 4 from h2) (by omega)) ⟨fun q k' h => hY q k' (fun g => h (Or.inr (Or.inr (Or.inr (by omega))))) (fun g => h (Or.inr (Or.inr (Or.inr (by omega))))) (fun g => h (Or.inr (Or.inr (Or.inr (by omega))))) (fun g => h (Or.inr (Or.inr (Or.inl g)))) (fun g => h (Or.inl g.1)), fun q k' h => fr4.2.1 q k' (fun g => h (Or.inr (Or.inl g)))⟩ ?_ (hY 2 6 (by omega) (by omega) (by omega) (by omega) (by omega)) fr4.2.2 (congrArg (fun y => y.2) hpC)
      exact ak_pM_upI (ak_pM_trans (ak_pM_upI pmC (Or.inl ⟨rfl, Or.inr (by decide)⟩)) (ak_pM_node (show z3 2 < 9000 by omega))) (Or.inr (Or.inl ⟨by decide, by decide, by omega, by omega⟩))
    have eZ := ak_ext_trans eY eF
    refine ⟨_, ((9000 * p + z3 2 : Nat) : Int), _, ⟨IN', show z 0 < z3 0 + 1 by omega, ?_, eZ, fun C M ft => ?_⟩, fun Q X g => G2 Q X (go _ _ ⟨b120, cl _ _ (am_s206 (fun _ => ⟨fun _ => ?_, fun q => absurd rfl q⟩) (fun q => absurd q ?_))⟩)⟩
    · show 2 * (z3 1 + 1) + 1 + 3 * ak_st b n (z 0) + z 5 ≤ 2 * z 1 + 3 * ak_st b n (z3 0 + 1) + z3 5 ∧ z3 2 + 1 + ak_st b n (z 0) ≤ z 2 + ak_st b n (z3 0 + 1) ∧ 13 * z3 3 + ak_st b n (z 0) ≤ 13 * z 3 + ak_st b n (z3 0 + 1) ∧ 6 * z3 4 + ak_st b n (z 0) ≤ 6 * z 4 + ak_st b n (z3 0 + 1)
      omega
    · have fY := ak_fut_fst (y := -1) ft eY eF (Or.inl rfl)
      have fS : ak_fut u p z2 z3 (-1) hcB.1 hmB.1 C M := ak_fut_agr (ak_fut_sub fY ⟨le2.2.1, le2.2.2.1, le2.2.2.2.1, le2.2.2.2.2.1, le2.2.2.2.2.2.1⟩) (ak_agr_trans (ak_agr_upC (by omega) (by omega) (by omega) (by omega)) (ak_agr_upM (by omega) (by omega)))
      have key3 := T3 C M fS
      obtain ⟨⟨a1, -, -, a4, -⟩, -, -⟩ := fY
      obtain ⟨⟨c1, -, -, -, c5⟩, -, -⟩ := ft
      have oB : ∀ q k', q = ak_T u + 2 ∨ q = ak_T u + 3 → k' < z2 1 → hcB.1 q k' = hc2.1 q k' := by
        intro q k' hq hk'
        have g := e3.2.1.1 k' (Nat.zero_le _) hk'
        have g2 : hcB.1 q k' = cS.1 q k' := by
          rcases hq with rfl | rfl
          · exact g.1
          · exact g.2
        rw [g2, ← hcS]
        exact (ak_up_out1 (by omega)).trans ((ak_up_out (by omega)).trans (ak_up_out (by omega)))
      have p0 := a1 (z 1) (Nat.le_refl _) (by omega)
      have p1 := a1 (z 1 + 1) (by omega) (by omega)
      have pl := a4 (z 5) (Nat.le_refl _) (by omega)
      have gl := e3.2.1.2.2.2.1 (z 5) (Nat.zero_le _) (by omega)
      have y1 : C (ak_T u + 2) (z 1) = 7 := by
        rw [p0.1]
        exact (ak_up_out1 (by omega)).trans ((oB _ _ (Or.inl rfl) (by omega)).trans f1)
      have y2 : C (ak_T u + 3) (z 1) = (z 5 : Int) := by
        rw [p0.2]
        exact (ak_up_out1 (by omega)).trans ((oB _ _ (Or.inr rfl) (by omega)).trans f2)
      have y3 : C (ak_T u + 2) (z 1 + 1) = 30 := by
        rw [p1.1]
        exact (ak_up_out1 (by omega)).trans ((oB _ _ (Or.inl rfl) (by omega)).trans f3)
      have y4 : C (ak_T u + 3) (z 1 + 1) = ((z3 1 + 1 : Nat) : Int) := by
        rw [p1.2]
        exact ak_up_at1
      have y5 : C (ak_T u + 19) (z 5) = ((z 1 + 2 : Nat) : Int) := by
        rw [pl.2.1, show (am_up hcB.1 (ak_T u + 3) (z 1 + 1) ((z3 1 + 1 : Nat) : Int), hcB.2).1 (ak_T u + 19) (z 5) = hcB.1 (ak_T u + 19) (z 5) from ak_up_out1 (by omega), gl.2.1, ← hcS, ← q1]
        exact ak_up_at1
      have y6 : C (ak_T u + 18) (z 5) = (k : Int) := by
        rw [pl.1, show (am_up hcB.1 (ak_T u + 3) (z 1 + 1) ((z3 1 + 1 : Nat) : Int), hcB.2).1 (ak_T u + 18) (z 5) = hcB.1 (ak_T u + 18) (z 5) from ak_up_out1 (by omega), gl.1, ← hcS]
        exact (ak_up_out1 (by omega)).trans ((ak_up_out (by omega)).trans ak_up_at)
      have y7 : C (ak_T u + 20) (z 5) = ((Mt - 1 : Nat) : Int) := by
        rw [pl.2.2.1, show (am_up hcB.1 (ak_T u + 3) (z 1 + 1) ((z3 1 + 1 : Nat) : Int), hcB.2).1 (ak_T u + 20) (z 5) = hcB.1 (ak_T u + 20) (z 5) from ak_up_out1 (by omega), gl.2.2.1, ← hcS]
        rw [show ((am_up (am_up (am_up hc2.1 (ak_T u + 18) (z 5) (k : Int)) (ak_T u + 20) (z 5) (hc2.1 2 6)) (ak_T u + 19) (z 5) (z2 1 : Int), hc2.2) : ak_S).1 (ak_T u + 20) (z 5) = hc2.1 2 6 from (ak_up_out1 (by omega)).trans ak_up_at]
        exact m6
      have y8 : M 135 (60 * p + z 5) = x := by
        rw [pl.2.2.2.1]
        exact ak_up_at1
      have y9 : M 136 (60 * p + z 5) = (k : Int) := by
        rw [pl.2.2.2.2, show ((am_up hmB.1 135 (60 * p + z 5) x, hmB.2) : ak_S).1 136 (60 * p + z 5) = hmB.1 136 (60 * p + z 5) from ak_up_out1 (by omega), gl.2.2.2.2, ← hmS]
        exact ak_up_at1
      have y10 : C (ak_T u + 2) (z3 1) = 34 := by
        rw [(c1 (z3 1) (by omega) (Nat.lt_succ_self _)).1]
        show am_up (am_up (am_up (am_up (am_up hc4.1 (ak_T u + 2) (z3 1) 34) (ak_T u + 3) (z3 1) 0) (ak_T u + 1) 2 ((z3 1 + 1 : Nat) : Int)) (ak_T u + 3) (z 1 + 1) ((z3 1 + 1 : Nat) : Int)) 2 5 (lv : Int) (ak_T u + 2) (z3 1) = 34
        rw [ak_up_out (by omega), ak_up_out (by omega), ak_up_out (by omega), ak_up_out (by omega), ak_up_at]
      have cx : ∀ q, 114 ≤ q → q ≤ 115 → M q (9000 * p + z3 2) = am_up (ak_node (am_up hmC.1 110 42 ((lv + 1 : Nat) : Int), hmC.2) p (z3 2) 13 0).1 115 (9000 * p + z3 2) (z 5 : Int) q (9000 * p + z3 2) := fun q g1 g2 => c5 q _ g1 (by omega) (by omega) (show 9000 * p + z3 2 < 9000 * p + (z3 2 + 1) by omega) (by omega)
      have y11 : M 114 (9000 * p + z3 2) = 13 := by
        rw [cx 114 (by decide) (by decide)]
        simp [ak_node, am_up]
      have y12 : M 115 (9000 * p + z3 2) = (z 5 : Int) := by
        rw [cx 115 (by decide) (by decide)]
        exact ak_up_at
      have hlt : ak_lt Mt lv + 40 = ak_lt Mt (lv + 1) := by
        unfold ak_lt
        omega
      have mt := w.2.2.2.2.2.2.2.1.1
      have hlv := w.2.2.2.2.1.2.1
      have hltm : ak_lt Mt lv + 40 < 1000 := by
        unfold ak_lt
        omega
      have hlt2 : ak_lt Mt lv % 40 = Mt - 1 := by
        unfold ak_lt
        omega
      intro kx i hkx hi
      have hi' : z3 2 + 1 - z 2 ≤ i := hi
      have hx : 7 * (20 - o) + 4 ≤ kx := hkx
      refine ak_T3_fold ⟨_, rfl, ⟨by omega, by omega⟩, Or.inr (Or.inr (Or.inr (Or.inr (Or.inr (Or.inr (Or.inr (Or.inr (Or.inr (Or.inr (Or.inr (Or.inr ⟨y11, z3 1, z 5, 6160, 21, y12, h60, y1, y2, y3, y4, y5, by rw [y6, y9], ⟨Nat.le_refl _, ⟨Nat.le_refl _, hltm⟩, ?_⟩, y10, rfl, by rw [y7, hlt2]⟩)))))))))))⟩
      rw [y8, hlt, ← q1]
      exact key3 21 6160 (by omega) (Nat.le_refl _) (by omega)
    · rw [m42, show am_w32 (((lv + 2 : Nat) : Int) - 1) = ((lv + 1 : Nat) : Int) from by
        rw [ak_w (((lv + 2 : Nat) : Int) - 1) (by have := ak_lvo I3; omega)]
        omega]
      refine am_s212 IP.2.1.1.1 hp2 IP.2.2.2.2.2.2.2.2.2.1 (show z3 2 < 9000 by omega) ?_
      have c31 : (ak_node (am_up hmC.1 110 42 ((lv + 1 : Nat) : Int), hmC.2) p (z3 2) 13 0).1 110 31 = (p : Int) := (ak_node_at (by omega) (by omega)).trans IP.2.1.1.1
      have ew : am_w32 (((60 * p + z 5 : Nat) : Int) - am_w32 (60 * (p : Int))) = (z 5 : Int) := by
        rw [ak_w (60 * (p : Int)) (by omega), ak_w (((60 * p + z 5 : Nat) : Int) - 60 * (p : Int)) (by omega)]
        omega
      show (0 ≤ ((9000 * p + z3 2 : Nat) : Int) ∧ ((9000 * p + z3 2 : Nat) : Int) < 18000) ∧ Q ((9000 * p + z3 2 : Nat) : Int) (am_up (ak_node (am_up hmC.1 110 42 ((lv + 1 : Nat) : Int), hmC.2) p (z3 2) 13 0).1 115 ((9000 * p + z3 2 : Nat) : Int).toNat (am_w32 (((60 * p + z 5 : Nat) : Int) - am_w32 (60 * (ak_node (am_up hmC.1 110 42 ((lv + 1 : Nat) : Int), hmC.2) p (z3 2) 13 0).1 110 31))), (ak_node (am_up hmC.1 110 42 ((lv + 1 : Nat) : Int), hmC.2) p (z3 2) 13 0).2)
      rw [c31, ew, ak_natn]
      exact ⟨by omega, g⟩
    · have q37 : am_up hmC.1 110 42 (am_w32 (hmC.1 110 42 - 1)) 110 37 = hmC.1 110 37 := ak_up_out (by omega)
      have := I3.2.2.1
      have m37' : hmC.1 110 37 = hmB.1 110 37 := m37.trans (ak_up_out1 (by omega))
      show ¬ 0 ≤ am_up hmC.1 110 42 (am_w32 (hmC.1 110 42 - 1)) 110 37
      omega
  · obtain ⟨hx, x, hmx, wr, go⟩ := R
    have wr1 := ak_WRs_up w IS (Nat.le_refl _) eS wr
    have wr2 : ak_WR u p hc hm hcx (am_up hmx.1 135 (60 * p + z 5) x, hmx.2) := ak_WR_M wr1 (q := 135) (k := 60 * p + z 5) (v := x) (Or.inr ⟨Or.inl rfl, by omega, by omega⟩)
    obtain ⟨x', hm', ⟨h3, wf, rfl⟩, cl⟩ := ak_MI_get (e := e) (r := 1) (d := d + 20 * (20 - o) + 7) (ρ := ρ) (j := 229) (ar := [am_r 110]) (h := hm) (Q := fun _ h' => ∃ h3, ak_wf (am_up hmx.1 135 (60 * p + z 5) x, hmx.2) h3 ∧ h' = (am_up h3.1 110 42 (am_w32 (h3.1 110 42 - 1)), h3.2)) (G2 _ _ (go _ _ ⟨b120, am_w211 wr2.1 (fun h3 wf => by
      have wr3 := ak_WR_note (ak_WR_wf wr2 wf) (v := am_w32 (h3.1 110 42 - 1))
      exact am_w206 wr3.1 ⟨fun q => absurd q (by decide), fun _ => ⟨h3, wf, rfl⟩⟩)⟩))
    exact ⟨hx, x', _, ak_WR_note (ak_WR_wf wr2 wf), cl⟩
end LKLT
