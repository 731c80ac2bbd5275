/-! the method a word names -/
def ak_mths (b : Nat → Int) (n u p : Nat) (hc hm : ak_S) (M : Nat) : Prop := M ≤ 40 ∧ hc.1 (ak_T u) 4 = (M : Int) ∧ hm.1 122 p = (M : Int) ∧
  ∀ x, x < M → ∃ i z : Nat, ak_wd b n i z ∧ hm.1 123 (40 * p + x) = (i : Int) ∧ hm.1 124 (40 * p + x) = (z : Int) ∧ hc.2.1 (ak_T u + 11) x = ak_pk b i z
section MTH
variable {e : ak_X3} {d : Nat} {b : Nat → Int} {n m p u a M : Nat} {hc hm : ak_S} {ρ : List Nat}
theorem am_s135 (hu : u = 0 ∨ u = 1) {Q : Int → ak_S → Prop} {X : Nat → ak_S → Prop} {w : Int} (hM : hc.1 (ak_T u) 4 = (M : Int)) (hM2 : M ≤ 40) (w1 : Q (ak_find (hc.2.1 (ak_T u + 11)) w M 0) hc) : ak_MI e 0 (d + 1) ρ 135 [am_r (ak_T u), am_l w] hc Q X := by
  have hml : am_cats [am_r (ak_T u), am_l w] ≤ am_ml am_P 135 := Nat.le_of_ble_eq_true rfl
  have lp : ∀ (c x : Nat), x + c = M → ak_find (hc.2.1 (ak_T u + 11)) w c x = ak_find (hc.2.1 (ak_T u + 11)) w M 0 → ak_W0 e 0 d 135 ρ 2 [some (am_r (ak_T u)), some (am_l w), none, some (am_i (x : Int))] [] hc (ak_qi Q X) := by
    intro c
    induction c with
    | zero =>
      intro x hx he
      rw [← he] at w1
      exact am_k135_2 hu ⟨fun _ => w1, fun q => absurd q (by rw [hM]; omega)⟩
    | succ c ih =>
      intro x hx he
      have bx : 0 ≤ (x : Int) ∧ (x : Int) < 40 := by omega
      refine am_k135_2 hu ⟨fun q => absurd q (by rw [hM]; omega), fun _ => ⟨bx, fun q => ?_, fun q => ?_⟩⟩
      · rw [ak_natn] at q
        rw [ak_wj (show x < 1000000 by omega)]
        refine ih (x + 1) (by omega) ?_
        rw [← he]
        show _ = (if hc.2.1 (ak_T u + 11) x = w then _ else ak_find _ w c (x + 1))
        rw [if_neg (fun q2 => q (ak_lsign0.mpr q2))]
      · rw [ak_natn] at q
        have e1 : ak_find (hc.2.1 (ak_T u + 11)) w (c + 1) x = (x : Int) := if_pos (ak_lsign0.mp q)
        rw [← he, e1] at w1
        exact w1
  exact ak_MI_of hml (am_k135_0 hu (lp M 0 (by omega) rfl))
theorem am_s235 {Q : Int → ak_S → Prop} {X : Nat → ak_S → Prop} (C : ak_cm b n p hm a) (hst : ak_st b n a ≤ n) (hf : hm.1 110 37 < 0) (mm : ak_mths b n u p hc hm M)
    (w1 : ak_kd b n (ak_st b n a) = 2 → 0 ≤ ak_find (hc.2.1 (ak_T u + 11)) (ak_pk b (ak_st b n a) (ak_nx b n (ak_st b n a) - ak_st b n a)) M 0 → ∀ h', ak_cm b n p h' (a + 1) → ak_rfr hm h' → Q (ak_find (hc.2.1 (ak_T u + 11)) (ak_pk b (ak_st b n a) (ak_nx b n (ak_st b n a) - ak_st b n a)) M 0) h')
    (w0 : ¬ (ak_kd b n (ak_st b n a) = 2 ∧ 0 ≤ ak_find (hc.2.1 (ak_T u + 11)) (ak_pk b (ak_st b n a) (ak_nx b n (ak_st b n a) - ak_st b n a)) M 0) → Q 0 (ak_wr hm)) :
    ak_MI e 1 (d + 4) ρ 235 [am_r 110] hm Q X := by
  obtain ⟨n1, n2, n3, n4⟩ := mm
  have hkM := C.2.2.1
  have hp := C.1.1
  have hp2 := C.1.2.1
  have b1 : 0 ≤ (p : Int) ∧ (p : Int) < 2 := by omega
  have wrong : ¬ (ak_kd b n (ak_st b n a) = 2 ∧ 0 ≤ ak_find (hc.2.1 (ak_T u + 11)) (ak_pk b (ak_st b n a) (ak_nx b n (ak_st b n a) - ak_st b n a)) M 0) → ak_MV e 1 (d + 3) ρ 207 [am_r 110, am_i (hm.1 110 34)] hm (fun h1 => Q 0 h1) (fun _ _ => False) :=
    fun z => am_s207 (fun _ => w0 z) (fun q => absurd q (by omega))
  by_cases hk2 : ak_kd b n (ak_st b n a) = 2
  · obtain ⟨hin, hl, wd, hv⟩ := ak_kd_word hk2
    have tokM : hm.1 110 33 = 2 := by rw [hkM]; exact hk2
    have lp : ∀ (c x : Nat), x + c = M → ak_find (hc.2.1 (ak_T u + 11)) (ak_pk b (ak_st b n a) (ak_nx b n (ak_st b n a) - ak_st b n a)) c x = ak_find (hc.2.1 (ak_T u + 11)) (ak_pk b (ak_st b n a) (ak_nx b n (ak_st b n a) - ak_st b n a)) M 0 → ak_W0 e 1 (d + 3) 235 ρ 11 [some (am_r 110), some (am_i (x : Int))] [] hm (ak_qi Q X) := by
      intro c
      induction c with
      | zero =>
        intro x hx he
        have hneg : ak_find (hc.2.1 (ak_T u + 11)) (ak_pk b (ak_st b n a) (ak_nx b n (ak_st b n a) - ak_st b n a)) M 0 < 0 := by rw [← he]; exact (by decide : (-1 : Int) < 0)
        refine am_k235_11 ?_
        rw [hp, ak_natn, n3]
        exact ⟨b1, fun _ => wrong (fun z => absurd z.2 (by omega)), fun q => absurd q (by omega)⟩
      | succ c ih =>
        intro x hx he
        obtain ⟨i', z', w', g1, g2, g3⟩ := n4 x (by omega)
        have b2 : 0 ≤ ((40 * p + x : Nat) : Int) ∧ ((40 * p + x : Nat) : Int) < 80 := by omega
        refine am_k235_11 ?_
        rw [hp, ak_natn, n3, show am_w32 (am_w32 (40 * (p : Int)) + (x : Int)) = ((40 * p + x : Nat) : Int) from ak_wmul (c := 40) (by omega), ak_natn, C.2.2.2.1, C.2.2.2.2.1, ak_wj (show x < 1000000 by omega), g1, g2]
        refine ⟨b1, fun q => absurd q (by omega), fun _ => ⟨fun q => absurd tokM q, fun _ => ⟨b2, b2, am_s213 C.1 w' wd (fun q => ⟨fun _ => ?_, fun q2 => absurd q2 (by decide)⟩) (fun q => ⟨fun q2 => absurd rfl q2, fun _ => ?_⟩)⟩⟩⟩
        · have e1 : ak_find (hc.2.1 (ak_T u + 11)) (ak_pk b (ak_st b n a) (ak_nx b n (ak_st b n a) - ak_st b n a)) (c + 1) x = (x : Int) := if_pos (g3.trans q)
          have w1' := w1 hk2
          rw [← he, e1] at w1'
          exact am_rd C hst (w1' (by omega))
        · refine ih (x + 1) (by omega) ?_
          rw [← he]
          show _ = (if hc.2.1 (ak_T u + 11) x = ak_pk b (ak_st b n a) (ak_nx b n (ak_st b n a) - ak_st b n a) then _ else ak_find _ _ c (x + 1))
          rw [if_neg (fun q2 => q (g3.symm.trans q2))]
    exact ak_MI_of (Nat.le_of_ble_eq_true rfl) (am_k235_0 (am_s206 (fun _ => ⟨fun _ => lp M 0 (by omega) rfl, fun q => absurd rfl q⟩) (fun q => absurd q (by omega))))
  · refine ak_MI_of (Nat.le_of_ble_eq_true rfl) (am_k235_0 (am_s206 (fun _ => ⟨fun _ => am_k235_11 ?_, fun q => absurd rfl q⟩) (fun q => absurd q (by omega))))
    rw [hp, ak_natn]
    exact ⟨b1, fun _ => wrong (fun z => hk2 z.1), fun _ => ⟨fun _ => wrong (fun z => hk2 z.1), fun q => absurd (hkM.symm.trans q) hk2⟩⟩
end MTH
