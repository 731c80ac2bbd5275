/-! methods, both sides at once -/
section LKME
variable {e : ak_X3} {d dd dm u p : Nat} {b : Nat → Int} {n m lv o Mt : Nat} {D : Nat → Nat} {z z' z1 z2 za zb : Nat → Nat} {hc hm hc' hm' hc1 hm1 hc2 hm2 hcx hmx : ak_S} {ρ : List Nat}
/-- between two methods -/
def ak_PM (u p : Nat) (b : Nat → Int) (n m Mt : Nat) (z : Nat → Nat) (hc hm : ak_S) : Prop :=
  ak_cc b n m hc (z 0) ∧ ak_cm b n p hm (z 0) ∧ hm.1 110 37 < 0 ∧ hm.1 110 38 = 0 ∧ ak_nms b n u p hc hm (z 6) ∧ ak_sts u p hc hm (z 7) (z 6) ∧ ak_mths b n u p hc hm Mt ∧
  hc.1 (ak_T u + 1) 2 = (z 1 : Int) ∧ hm.1 121 p = (z 2 : Int) ∧ hc.1 (ak_T u + 1) 6 = (z 3 : Int) ∧ hc.1 (ak_T u + 1) 11 = (z 4 : Int) ∧ hc.1 (ak_T u) 14 = (z 5 : Int) ∧ hm.1 134 p = (z 5 : Int) ∧ z 5 ≤ 60
theorem ak_PI_PM (w : ak_PI u p b n m lv D 0 Mt z hc hm) : ak_PM u p b n m Mt z hc hm := by
  obtain ⟨w1, w2, w3, w4, w5, w6, w7, w8, w9, w10, w11, w12, w13, w14, w15, w16⟩ := w
  exact ⟨w1, w2, w3, w4.1, w6, w7, w8, w9, w10, w11, w12, w13, w14, w15⟩
/-- what a run left alone -/
def ak_fm (u p : Nat) (hc hm hc' hm' : ak_S) : Prop := ak_pC u hc hc' ∧ ak_pM p hm hm' ∧ hc'.2.2 = hc.2.2 ∧ hm'.2.2 = hm.2.2
theorem ak_fm_refl : ak_fm u p hc hm hc hm := ⟨ak_pC_refl, ak_pM_refl, rfl, rfl⟩
theorem ak_fm_trans (w : ak_fm u p hc hm hc1 hm1) (w2 : ak_fm u p hc1 hm1 hc2 hm2) : ak_fm u p hc hm hc2 hm2 := ⟨ak_pC_trans w.1 w2.1, ak_pM_trans w.2.1 w2.2.1, w2.2.2.1.trans w.2.2.1, w2.2.2.2.trans w.2.2.2⟩
theorem ak_fm_ext (e1 : ak_ext u p z z1 hc hm hc1 hm1) : ak_fm u p hc hm hc1 hm1 := ⟨e1.2.2.2.1, e1.2.2.2.2.1, e1.2.2.2.2.2.2.2.2.1, e1.2.2.2.2.2.2.2.2.2⟩
theorem ak_WR_fm (w0 : ak_fm u p hc hm hc1 hm1) (h0 : hm.1 110 38 = 0) (h1 : 0 ≤ hm1.1 110 38) (w : ak_WR u p hc1 hm1 hc' hm') : ak_WR u p hc hm hc' hm' := by
  obtain ⟨w1, w2, w3, w4, w5, w6, w7, w8⟩ := w
  refine ⟨w1, w2, ak_pC_trans w0.1 w3, ak_pM_trans w0.2.1 w4, w5, by omega, ?_, w8.trans w0.2.2.2⟩
  rw [w7]
  show (hc1.2.2.1 + 1, hc1.2.2.2 + 6) = (hc.2.2.1 + 1, hc.2.2.2 + 6)
  rw [w0.2.2.1]
theorem ak_WR_PM (w : ak_PM u p b n m Mt z hc hm) (hz : z 2 ≤ 6130) : ak_WR u p hc hm (ak_th hc) (ak_wr hm) := by
  obtain ⟨w1, w2, w3, w4, w5, w6, w7, w8, w9, w10⟩ := w
  have e1 : (ak_wr hm).1 110 37 = ((ak_st b n (z 0) : Nat) : Int) := by
    show am_up hm.1 110 37 (hm.1 110 34) 110 37 = _
    rw [ak_up_eq, w2.2.2.2.1]
  have e2 : (ak_wr hm).1 121 p = (z 2 : Int) := by
    show am_up hm.1 110 37 (hm.1 110 34) 121 p = _
    rw [ak_up_out (by omega), w9]
  refine ⟨by omega, ?_, ak_pC_th, ak_pM_wr, by omega, by omega, rfl, rfl⟩
  rw [e1]
  exact w1.2.2.2.2.2.1.symm
/-- a token read on -/
theorem ak_PM_step (hu : u = 0 ∨ u = 1) (w : ak_PM u p b n m Mt z hc hm) (C : ak_cc b n m hc' (z 0 + 1)) (fr : ak_afr hc hc') (M : ak_cm b n p hm' (z 0 + 1)) (fr' : ak_rfr hm hm') : ak_PM u p b n m Mt (ak_zu z 0 (z 0 + 1)) hc' hm' := by
  have hT := ak_T_in hu
  obtain ⟨w1, w2, w3, w4, w6, w7, w8, w9, w10, w11, w12, w13, w14, w15⟩ := w
  have fC : ∀ q k, q ≠ 3 → hc'.1 q k = hc.1 q k := fun q k h => fr.1 q k (fun z => h z.1)
  have fJ : ∀ q k, q ≠ 3 → hc'.2.1 q k = hc.2.1 q k := fun q k h => fr.2.1 q k (fun z => h z.1)
  have fM : ∀ q k, ¬ (q = 110 ∧ 32 ≤ k ∧ k ≤ 36) → hm'.1 q k = hm.1 q k := fr'.1
  refine ⟨C, M, ?_, ?_, ak_nms_fr w6 (fC _ _ (by omega)) (fun k => fJ _ _ (by omega)) (fM _ _ (by omega)) (fun k => fM _ _ (by omega)) (fun k => fM _ _ (by omega)),
    ak_sts_fr w7 (Nat.le_refl _) (fC _ _ (by omega)) (fun q k h1 h2 => fC _ _ (by omega)) (fun q k h1 h2 => fM _ _ (by omega)),
    ak_mths_fr w8 (fC _ _ (by omega)) (fun k => fJ _ _ (by omega)) (fun q k h1 h2 => fM _ _ (by omega)), ?_, ?_, ?_, ?_, ?_, ?_, w15⟩
  · rw [fM _ _ (by omega)]; exact w3
  · rw [fM _ _ (by omega)]; exact w4
  · rw [fC _ _ (by omega)]; exact w9
  · rw [fM _ _ (by omega)]; exact w10
  · rw [fC _ _ (by omega)]; exact w11
  · rw [fC _ _ (by omega)]; exact w12
  · rw [fC _ _ (by omega)]; exact w13
  · rw [fM _ _ (by omega)]; exact w14
/-- the parts of earlier methods stay -/
theorem ak_sub_fr {P : ak_Pp} (s : ak_sub u p P za zb z1 hc hm) (fC : ∀ q k, ak_T u + 2 ≤ q → q ≤ ak_T u + 20 → ¬ (ak_T u + 11 ≤ q ∧ q ≤ ak_T u + 17) → hc'.1 q k = hc.1 q k) (fM : ∀ q k, (114 ≤ q ∧ q ≤ 120) ∨ (135 ≤ q ∧ q ≤ 136) → hm'.1 q k = hm.1 q k) (hz : ∀ i, 1 ≤ i → i ≤ 5 → z2 i = z1 i) (hz0 : z1 0 ≤ z2 0 ∧ z1 6 ≤ z2 6 ∧ z1 7 ≤ z2 7) : ak_sub u p P za zb z2 hc' hm' := by
  obtain ⟨a, c, ⟨h1, h3, h4⟩, h2⟩ := s
  refine ⟨a, c, ⟨fun i hi => ?_, ak_agr_trans h3 ⟨fun k _ _ => ⟨fC _ _ (by omega) (by omega) (by omega), fC _ _ (by omega) (by omega) (by omega)⟩, fun k _ _ => ⟨fC _ _ (by omega) (by omega) (by omega), fC _ _ (by omega) (by omega) (by omega), fC _ _ (by omega) (by omega) (by omega)⟩, fun k _ _ => ⟨fC _ _ (by omega) (by omega) (by omega), fC _ _ (by omega) (by omega) (by omega), fC _ _ (by omega) (by omega) (by omega), fC _ _ (by omega) (by omega) (by omega)⟩,
    fun k _ _ => ⟨fC _ _ (by omega) (by omega) (by omega), fC _ _ (by omega) (by omega) (by omega), fC _ _ (by omega) (by omega) (by omega), fM _ _ (by omega), fM _ _ (by omega)⟩, fun q k g1 g2 _ _ _ => fM _ _ (by omega)⟩, fun j g1 g2 => ?_⟩, h2⟩
  · have h5 := h1 i hi
    by_cases h0 : i = 0
    · subst h0; omega
    · by_cases h6 : i ≤ 5
      · rw [hz i (by omega) h6]; exact h5
      · have : i = 6 ∨ i = 7 := by omega
        rcases this with q | q <;> subst q <;> omega
  · rw [fC _ _ (by omega) (by omega) (by omega)]
    rw [hz 4 (by decide) (by decide)] at g2
    exact h4 j g1 g2
/-- the methods that were read -/
def ak_PRG (u p Mt : Nat) (z : Nat → Nat) (hc hm : ak_S) : Prop := ∀ x, x < Mt → ∃ za zb : Nat → Nat, hc.1 (ak_T u + 13) x = (za 1 : Int) ∧ zb 1 < z 1 ∧ hc.1 (ak_T u + 2) (zb 1) = 34 ∧ hm.1 126 (40 * p + x) = hc.1 (ak_T u + 12) x ∧ (0 ≤ hc.1 (ak_T u + 12) x ∧ hc.1 (ak_T u + 12) x ≤ 4) ∧ ak_sub u p (ak_PL u p 1 (hm.1 125 (40 * p + x)) (ak_lt (x + 1) 0)) za zb z hc hm
theorem ak_PRG_ext (w : ak_PRG u p Mt z hc hm) (e1 : ak_ext u p z z1 hc hm hc1 hm1) : ak_PRG u p Mt z1 hc1 hm1 := by
  intro x hx
  obtain ⟨za, zb, w1, w2, w3, w4, w5, w6⟩ := w x hx
  have a := e1.2.2.2.2.2.2.1 x
  have c := e1.2.2.2.2.2.2.2.1
  have le := ak_ext_le e1
  refine ⟨za, zb, a.2.trans w1, by omega, ak_od_ext e1 w2 w3, ?_, ?_, ?_⟩
  · rw [c 126 _ (by decide) (by decide), a.1]; exact w4
  · rw [a.1]; exact w5
  · rw [c 125 _ (by decide) (by decide)]
    exact ak_sub_ext w6 e1
theorem ak_PRG_fr (w : ak_PRG u p Mt z hc hm) (fC : ∀ q k, ak_T u + 2 ≤ q → q ≤ ak_T u + 20 → ¬ (ak_T u + 11 ≤ q ∧ q ≤ ak_T u + 17) → hc'.1 q k = hc.1 q k) (fM : ∀ q k, (114 ≤ q ∧ q ≤ 120) ∨ (135 ≤ q ∧ q ≤ 136) → hm'.1 q k = hm.1 q k) (hz : ∀ i, 1 ≤ i → i ≤ 5 → z2 i = z i) (hz0 : z 0 ≤ z2 0 ∧ z 6 ≤ z2 6 ∧ z 7 ≤ z2 7)
    (f12 : ∀ q k, ak_T u + 12 ≤ q → q ≤ ak_T u + 13 → k < Mt → hc'.1 q k = hc.1 q k) (f125 : ∀ q k, 125 ≤ q → q ≤ 126 → k < 40 * p + Mt → hm'.1 q k = hm.1 q k) : ak_PRG u p Mt z2 hc' hm' := by
  intro x hx
  obtain ⟨za, zb, w1, w2, w3, w4, w5, w6⟩ := w x hx
  refine ⟨za, zb, ?_, ?_, ?_, ?_, ?_, ?_⟩
  · rw [f12 _ _ (by omega) (by omega) hx]; exact w1
  · rw [hz 1 (by decide) (by decide)]; exact w2
  · rw [fC _ _ (by omega) (by omega) (by omega)]; exact w3
  · rw [f12 _ _ (by omega) (by omega) hx, f125 _ _ (by decide) (by decide) (by omega)]; exact w4
  · rw [f12 _ _ (by omega) (by omega) hx]; exact w5
  · rw [f125 _ _ (by decide) (by decide) (by omega)]
    exact ak_sub_fr w6 fC fM hz hz0
/-- tables of methods written -/
theorem ak_PI_tab0 (hu : u = 0 ∨ u = 1) (w : ak_PI u p b n m lv D o Mt z hc hm) {r : Nat} (hr : r = 125 ∨ r = 126) (fC : ∀ q j, q ≠ ak_T u + 12 → hc'.1 q j = hc.1 q j) (fJ : ∀ q j, hc'.2.1 q j = hc.2.1 q j) (fM : ∀ q j, q ≠ r → hm'.1 q j = hm.1 q j) : ak_PI u p b n m lv D o Mt z hc' hm' := by
  have hT := ak_T_in hu
  obtain ⟨w1, w2, w3, w4, w5, w6, w7, w8, w9, w10, w11, w12, w13, w14, w15, w16⟩ := w
  refine ⟨ak_cc_fr w1 (fun _ => fC _ _ (by omega)) (fun _ => fC _ _ (by omega)) (fun _ => fC _ _ (by omega)) (fJ _ _) (fun _ => fJ _ _), ak_cm_fr w2 (fun _ _ _ => fM _ _ (by omega)) (fun _ => fM _ _ (by omega)) (fun _ => fM _ _ (by omega)) (fun _ => fM _ _ (by omega)), ?_, ?_,
    ak_scs_fr w5 (fC _ _ (by omega)) (fun _ => fC _ _ (by omega)) (fun _ => fJ _ _) (fM _ _ (by omega)) (fun q k h1 h2 => fM _ _ (by omega)),
    ak_nms_fr w6 (fC _ _ (by omega)) (fun _ => fJ _ _) (fM _ _ (by omega)) (fun _ => fM _ _ (by omega)) (fun _ => fM _ _ (by omega)),
    ak_sts_fr w7 (Nat.le_refl _) (fC _ _ (by omega)) (fun q k h1 h2 => fC _ _ (by omega)) (fun q k h1 h2 => fM _ _ (by omega)),
    ak_mths_fr w8 (fC _ _ (by omega)) (fun _ => fJ _ _) (fun q k h1 h2 => fM _ _ (by omega)), (fC _ _ (by omega)).trans w9, (fM _ _ (by omega)).trans w10, (fC _ _ (by omega)).trans w11, (fC _ _ (by omega)).trans w12, (fC _ _ (by omega)).trans w13, (fM _ _ (by omega)).trans w14, w15, (fC _ _ (by omega)).trans w16.1, w16.2⟩
  · rw [fM _ _ (by omega)]; exact w3
  · rw [fM _ _ (by omega)]; exact w4
theorem ak_PI_tab (hu : u = 0 ∨ u = 1) (w : ak_PI u p b n m lv D o Mt z hc hm) {k k' : Nat} {v v' : Int} {q : Nat} (hq : q = 125 ∨ q = 126) : ak_PI u p b n m lv D o Mt z (am_up hc.1 (ak_T u + 12) k v, hc.2) (am_up hm.1 q k' v', hm.2) :=
  ak_PI_tab0 hu w hq (fun q j h => ak_up_out (fun g => h g.1)) (fun _ _ => rfl) (fun r j h => ak_up_out (fun g => h g.1))
theorem am_w230 {Q : Int → ak_S → Prop} {X : Nat → ak_S → Prop} (hf : 0 ≤ hm.1 110 37) (w : Q 0 hm) : ak_MI e 1 (d + 2) ρ 230 [am_r 110] hm Q X :=
  ak_MI_of (Nat.le_of_ble_eq_true rfl) (am_k230_0 (am_k230_4 ⟨fun q => absurd q (by decide), fun _ => am_w206 hf ⟨fun _ => w, fun q => absurd q (by decide)⟩⟩))
/-- the other's method behind its name, its table written -/
theorem am_p236 {Q : ak_S → Prop} {X : Nat → ak_S → Prop} (hf : hm.1 110 37 < 0) (hp : hm.1 110 31 = (p : Int)) (hp2 : p < 2) (hM : hm.1 122 p = (Mt : Int)) (hM2 : Mt < 40)
    (g : ak_MV e 1 (d + 1) ρ 205 [am_r 110] (am_up (am_up (am_up hm.1 123 (40 * p + Mt) (hm.1 110 34)) 124 (40 * p + Mt) (hm.1 110 35)) 122 p ((Mt + 1 : Nat) : Int), hm.2) (fun h3 => ak_MV e 1 (d + 1) ρ 210 [am_r 110, am_i 40] (am_up (am_up h3.1 110 42 1) 138 0 0, h3.2) (fun h4 => ak_MI e 1 (d + 1) ρ 208 [am_r 110, am_i 41] h4 (fun v6 h5 =>
      (v6 = 0 → ak_MI e 1 (d + 1) ρ 230 [am_r 110] h5 (fun v8 h7 => ak_MV e 1 (d + 1) ρ 211 [am_r 110, am_i 41] (am_up h7.1 126 (40 * p + Mt) v8, h7.2) (fun h9 => ak_MI e 1 (d + 1) ρ 232 [am_r 110] h9 (fun v11 h10 => Q (am_up h10.1 125 (40 * p + Mt) v11, h10.2)) (fun _ _ => False)) (fun _ _ => False)) (fun _ _ => False))
      ∧ (v6 ≠ 0 → ak_MV e 1 (d + 1) ρ 211 [am_r 110, am_i 41] (am_up h5.1 126 (40 * p + Mt) 0, h5.2) (fun h12 => ak_MI e 1 (d + 1) ρ 232 [am_r 110] h12 (fun v14 h13 => Q (am_up h13.1 125 (40 * p + Mt) v14, h13.2)) (fun _ _ => False)) (fun _ _ => False))) (fun _ _ => False)) (fun _ _ => False)) (fun _ _ => False)) :
    ak_W0 e 1 (d + 1) 236 ρ 151 [some (am_r 110), none, none] [] hm (ak_qv Q X) := by
  have b1 : 0 ≤ (p : Int) ∧ (p : Int) < 2 := by omega
  have b2 : 0 ≤ ((40 * p + Mt : Nat) : Int) ∧ ((40 * p + Mt : Nat) : Int) < 80 := by omega
  refine am_k236_151 (am_s206 (fun _ => ⟨fun _ => ?_, fun q => absurd rfl q⟩) (fun q => absurd q (Int.not_le.mpr hf)))
  rw [hp, ak_natn, hM, show am_w32 (am_w32 (40 * (p : Int)) + (Mt : Int)) = ((40 * p + Mt : Nat) : Int) from ak_wmul (c := 40) (by omega), ak_natn, ak_wj (show Mt < 1000000 by omega)]
  refine ⟨b1, b2, b2, b1, b1, ak_MV_imp g (fun h3 g2 => ⟨by decide, ak_MV_imp g2 (fun h4 g3 => ak_MI_imp g3 (fun v6 h5 g4 => ⟨fun q => ak_MI_imp (g4.1 q) (fun v8 h7 g5 => ⟨b2, ak_MV_imp g5 (fun h9 g6 => ak_MI_imp g6 (fun v11 h10 g7 => ⟨b2, g7⟩) (fun _ _ q => q)) (fun _ _ q => q)⟩) (fun _ _ q => q), fun q => ⟨b2, ak_MV_imp (g4.2 q) (fun h12 g5 => ak_MI_imp g5 (fun v14 h13 g6 => ⟨b2, g6⟩) (fun _ _ q => q)) (fun _ _ q => q)⟩⟩) (fun _ _ q => q)) (fun _ _ q => q)⟩) (fun _ _ q => q)⟩
/-- the other's look for a method of that name -/
theorem am_q236 {Q : ak_S → Prop} {X : Nat → ak_S → Prop} {a : Nat} (C : ak_cm b n p hm a) (hf : hm.1 110 37 < 0) (mm : ak_mths b n u p hc hm Mt)
    (w1 : ak_kd b n (ak_st b n a) = 2 → ak_find (hc.2.1 (ak_T u + 11)) (ak_pk b (ak_st b n a) (ak_nx b n (ak_st b n a) - ak_st b n a)) Mt 0 < 0 → ak_W0 e 1 (d + 3) 236 ρ 151 [some (am_r 110), none, none] [] hm (ak_qv Q X))
    (w0 : ¬ (ak_kd b n (ak_st b n a) = 2 ∧ ak_find (hc.2.1 (ak_T u + 11)) (ak_pk b (ak_st b n a) (ak_nx b n (ak_st b n a) - ak_st b n a)) Mt 0 < 0) → ak_W0 e 1 (d + 3) 236 ρ 151 [some (am_r 110), none, none] [] (ak_wr hm) (ak_qv Q X)) :
    ak_W0 e 1 (d + 3) 236 ρ 55 [some (am_r 110), some (am_i (-1)), some (am_i 0)] [] hm (ak_qv Q X) := by
  obtain ⟨n1, n2, n3, n4⟩ := mm
  have hkM := C.2.2.1
  have hp := C.1.1
  have hp2 := C.1.2.1
  have b1 : 0 ≤ (p : Int) ∧ (p : Int) < 2 := by omega
  have wrong : ¬ (ak_kd b n (ak_st b n a) = 2 ∧ ak_find (hc.2.1 (ak_T u + 11)) (ak_pk b (ak_st b n a) (ak_nx b n (ak_st b n a) - ak_st b n a)) Mt 0 < 0) → ak_MV e 1 (d + 3) ρ 207 [am_r 110, am_i (hm.1 110 34)] hm (fun h1 => ak_W0 e 1 (d + 3) 236 ρ 151 [some (am_r 110), none, none] [] h1 (ak_qv Q X)) (fun _ _ => False) :=
    fun z => am_s207 (fun _ => w0 z) (fun q => absurd q (Int.not_le.mpr hf))
  by_cases hk2 : ak_kd b n (ak_st b n a) = 2
  · obtain ⟨hin, hl, wd, hv⟩ := ak_kd_word hk2
    have tokM : hm.1 110 33 = 2 := hkM.trans hk2
    have lp : ∀ (c x : Nat) (tw : Int), x + c = Mt → ((0 ≤ tw ∨ 0 ≤ ak_find (hc.2.1 (ak_T u + 11)) (ak_pk b (ak_st b n a) (ak_nx b n (ak_st b n a) - ak_st b n a)) c x) ↔ 0 ≤ ak_find (hc.2.1 (ak_T u + 11)) (ak_pk b (ak_st b n a) (ak_nx b n (ak_st b n a) - ak_st b n a)) Mt 0) → ak_W0 e 1 (d + 3) 236 ρ 55 [some (am_r 110), some (am_i tw), some (am_i (x : Int))] [] hm (ak_qv Q X) := by
      intro c
      induction c with
      | zero =>
        intro x tw hx he
        have hn : ¬ (0 ≤ ak_find (hc.2.1 (ak_T u + 11)) (ak_pk b (ak_st b n a) (ak_nx b n (ak_st b n a) - ak_st b n a)) 0 x) := fun q => absurd (show (0 : Int) ≤ -1 from q) (by decide)
        refine am_k236_55 ?_
        rw [hp, ak_natn, n3]
        refine ⟨b1, fun _ => ⟨fun q => absurd tokM q, fun _ => ⟨fun q => w1 hk2 (Int.not_le.mp (fun g => ?_)), fun q => wrong (fun g => absurd (he.1 (Or.inl q)) (Int.not_le.mpr g.2))⟩⟩, fun q => absurd q (by omega)⟩
        rcases he.2 g with h | h
        · omega
        · exact hn h
      | succ c ih =>
        intro x tw hx he
        obtain ⟨i', z', w', g1, g2, g3⟩ := n4 x (by omega)
        have b2 : 0 ≤ ((40 * p + x : Nat) : Int) ∧ ((40 * p + x : Nat) : Int) < 80 := by omega
        refine am_k236_55 ?_
        rw [hp, ak_natn, n3, show am_w32 (am_w32 (40 * (p : Int)) + (x : Int)) = ((40 * p + x : Nat) : Int) from ak_wmul (c := 40) (by omega), ak_natn, C.2.2.2.1, C.2.2.2.2.1, ak_wj (show x < 1000000 by omega), g1, g2]
        refine ⟨b1, fun q => absurd q (by omega), fun _ => ⟨fun q => absurd tokM q, fun _ => ⟨b2, b2, am_s213 C.1 w' wd (fun q => ⟨fun q2 => absurd q2 (by decide), fun _ => ?_⟩) (fun q => ⟨fun _ => ?_, fun q2 => absurd rfl q2⟩)⟩⟩⟩
        · have e1 : ak_find (hc.2.1 (ak_T u + 11)) (ak_pk b (ak_st b n a) (ak_nx b n (ak_st b n a) - ak_st b n a)) (c + 1) x = (x : Int) := if_pos (g3.trans q)
          refine ih (x + 1) (x : Int) (by omega) ⟨fun _ => he.1 (Or.inr (by rw [e1]; omega)), fun _ => Or.inl (by omega)⟩
        · have e1 : ak_find (hc.2.1 (ak_T u + 11)) (ak_pk b (ak_st b n a) (ak_nx b n (ak_st b n a) - ak_st b n a)) (c + 1) x = ak_find (hc.2.1 (ak_T u + 11)) (ak_pk b (ak_st b n a) (ak_nx b n (ak_st b n a) - ak_st b n a)) c (x + 1) := if_neg (fun q2 => q (g3.symm.trans q2))
          rw [e1] at he
          exact ih (x + 1) tw (by omega) he
    exact lp Mt 0 (-1) (by omega) ⟨fun h => h.resolve_left (by decide), fun h => Or.inr h⟩
  · have tokM : hm.1 110 33 ≠ 2 := fun q => hk2 (hkM.symm.trans q)
    refine am_k236_55 ?_
    rw [hp, ak_natn, n3]
    exact ⟨b1, fun _ => ⟨fun _ => wrong (fun g => hk2 g.1), fun q => absurd q tokM⟩, fun _ => ⟨fun _ => ⟨fun _ => wrong (fun g => hk2 g.1), fun q => absurd q tokM⟩, fun q => absurd q tokM⟩⟩
end LKME
