/-! a site read, side by side -/
def ak_sts (u p : Nat) (hc hm : ak_S) (S N : Nat) : Prop := S ≤ 150 ∧ hc.1 (ak_T u) 10 = (S : Int) ∧ hm.1 127 p = (S : Int) ∧ ∀ i, i < S → hc.1 (ak_T u + 15) i = hm.1 128 (150 * p + i) ∧ hc.1 (ak_T u + 16) i = hm.1 129 (150 * p + i) ∧ hc.1 (ak_T u + 17) i = hm.1 130 (150 * p + i) ∧ 0 ≤ hm.1 129 (150 * p + i) ∧ hm.1 129 (150 * p + i) < (N : Int)
section LKS
variable {e : ak_X3} {d : Nat} {b : Nat → Int} {n m p u a N S : Nat} {hc hm : ak_S}
theorem am_s43 {ρ0 ρ3 ρ4 : Nat} (hu : u = 0 ∨ u = 1) {Q : Int → ak_S → Prop} {X : Nat → ak_S → Prop} {w : Int} (C : ak_cc b n m hc a) (hN : hc.1 (ak_T u) 6 = (N : Int)) (hN2 : N ≤ 100) (hw : ak_kd b n (ak_st b n a) = 2 → hc.2.1 3 10 = w)
    (w1 : ak_kd b n (ak_st b n a) = 2 → 0 ≤ ak_find (hc.2.1 (ak_T u + 14)) w N 0 → ∀ hc', ak_cc b n m hc' (a + 1) → ak_afr hc hc' → Q (ak_find (hc.2.1 (ak_T u + 14)) w N 0) hc')
    (w2 : ak_kd b n (ak_st b n a) = 2 → ak_find (hc.2.1 (ak_T u + 14)) w N 0 < 0 → N < 100 → ∀ hc', ak_cc b n m hc' (a + 1) → ak_afr (ak_nmC hc u N w) hc' → Q (N : Int) hc')
    (w0 : ¬ (ak_kd b n (ak_st b n a) = 2 ∧ (0 ≤ ak_find (hc.2.1 (ak_T u + 14)) w N 0 ∨ N < 100)) → X 0 (ak_th hc)) :
    ak_MI e 0 (d + 3) [ρ0, ak_T u, ak_T u + 1, ρ3, ρ4] 43 [am_r 2] hc Q X := by
  have hkC := C.2.2.2.2.1
  by_cases hk2 : ak_kd b n (ak_st b n a) = 2
  · have ham : a < m := ak_cc_lt C (by rw [hk2]; decide)
    refine ak_MI_of (Nat.le_of_ble_eq_true rfl) (am_k43_0 hu ⟨fun q => absurd (hkC.trans hk2) q, fun _ => am_k43_16 hu (am_s10 hu (fun _ => ?_) (fun q => absurd q (by decide)))⟩)
    rw [hw hk2]
    refine am_s136 hu hN hN2 (fun r0 => ⟨fun q => absurd q (by omega), fun _ => am_s10 hu (fun _ => am_adv C ham (w1 hk2 r0)) (fun q => absurd q (by decide))⟩) (fun r0 hN => ⟨fun q => absurd q (by omega), fun _ => am_s10 hu (fun _ => am_adv (ak_cc_nm hu C) ham (w2 hk2 r0 hN)) (fun q => absurd q (by decide))⟩)
      (fun r0 hN => ⟨fun _ => am_s10 hu (fun q => absurd rfl q) (fun _ => w0 (fun z => z.2.elim (fun z => absurd z (by omega)) (fun z => absurd z (by omega)))), fun q => absurd q (by decide)⟩)
  · exact ak_MI_of (Nat.le_of_ble_eq_true rfl) (am_k43_0 hu ⟨fun _ => am_k43_16 hu (am_s10 hu (fun q => absurd rfl q) (fun _ => w0 (fun z => hk2 z.1))), fun q => absurd (hkC.symm.trans q) hk2⟩)
def ak_siC (h : ak_S) (u S : Nat) (k x w : Int) : ak_S := (am_up (am_up (am_up (am_up h.1 (ak_T u + 15) S k) (ak_T u + 16) S x) (ak_T u + 17) S w) (ak_T u) 10 ((S + 1 : Nat) : Int), h.2)
def ak_siM (h : ak_S) (p S : Nat) (k x w : Int) : ak_S := (am_up (am_up (am_up (am_up h.1 128 (150 * p + S) k) 129 (150 * p + S) x) 130 (150 * p + S) w) 127 p ((S + 1 : Nat) : Int), h.2)
/-- the class's site, the other's site -/
theorem am_s42 {ρ0 ρ3 ρ4 : Nat} (hu : u = 0 ∨ u = 1) {Q : Int → ak_S → Prop} {X : Nat → ak_S → Prop} {k w : Int} (C : ak_cc b n m hc a) (hS : hc.1 (ak_T u) 10 = (S : Int)) (hS2 : S ≤ 150) (hN : hc.1 (ak_T u) 6 = (N : Int)) (hN2 : N ≤ 100) (hw : ak_kd b n (ak_st b n a) = 2 → hc.2.1 3 10 = w)
    (w1 : ak_kd b n (ak_st b n a) = 2 → S < 150 → 0 ≤ ak_find (hc.2.1 (ak_T u + 14)) w N 0 → ∀ hc', ak_cc b n m hc' (a + 1) → ak_afr hc hc' → Q (S : Int) (ak_siC hc' u S k (ak_find (hc.2.1 (ak_T u + 14)) w N 0) ((ak_st b n a : Nat) : Int)))
    (w2 : ak_kd b n (ak_st b n a) = 2 → S < 150 → ak_find (hc.2.1 (ak_T u + 14)) w N 0 < 0 → N < 100 → ∀ hc', ak_cc b n m hc' (a + 1) → ak_afr (ak_nmC hc u N w) hc' → Q (S : Int) (ak_siC hc' u S k (N : Int) ((ak_st b n a : Nat) : Int)))
    (w0 : ¬ (ak_kd b n (ak_st b n a) = 2 ∧ S < 150 ∧ (0 ≤ ak_find (hc.2.1 (ak_T u + 14)) w N 0 ∨ N < 100)) → X 0 (ak_th hc)) :
    ak_MI e 0 (d + 4) [ρ0, ak_T u, ak_T u + 1, ρ3, ρ4] 42 [am_r 2, am_i k] hc Q X := by
  have hT := ak_T_in hu
  have hpl := C.2.2.2.2.2.1
  have bS : S < 150 → 0 ≤ (S : Int) ∧ (S : Int) < 150 := by omega
  refine ak_MI_of (Nat.le_of_ble_eq_true rfl) (am_k42_0 hu ⟨fun q => am_k42_18 hu (am_s10 hu (fun q2 => absurd rfl q2) (fun _ => w0 (fun z => ?_))), fun q => am_k42_18 hu (am_s10 hu (fun _ => ?_) (fun q2 => absurd q2 (by decide)))⟩)
  · rw [hS] at q; exact absurd z.2.1 (by omega)
  · rw [hS] at q
    have hS3 : S < 150 := by omega
    refine am_s43 hu C hN hN2 hw (fun k2 r0 hc' C' fr => ?_) (fun k2 r0 hN' hc' C' fr => ?_) (fun z => w0 (fun z2 => z ⟨z2.1, z2.2.2⟩))
    · have e1 : hc'.1 (ak_T u) 10 = (S : Int) := by rw [fr.1 _ _ (by omega)]; exact hS
      rw [e1, ak_natn, hpl, ak_wj (show S < 1000000 by omega)]
      exact ⟨bS hS3, bS hS3, bS hS3, w1 k2 hS3 r0 hc' C' fr⟩
    · have e1 : hc'.1 (ak_T u) 10 = (S : Int) := by
        rw [fr.1 _ _ (by omega)]
        show am_up hc.1 (ak_T u) 6 _ (ak_T u) 10 = _
        rw [ak_up_out (fun z => by omega)]; exact hS
      rw [e1, ak_natn, hpl, ak_wj (show S < 1000000 by omega)]
      exact ⟨bS hS3, bS hS3, bS hS3, w2 k2 hS3 r0 hN' hc' C' fr⟩
theorem ak_cm_si {k x w : Int} (c : ak_cm b n p hm a) : ak_cm b n p (ak_siM hm p S k x w) a := by
  have g : ∀ q j, q ≠ 127 → q ≠ 128 → q ≠ 129 → q ≠ 130 → (ak_siM hm p S k x w).1 q j = hm.1 q j := by
    intro q j h1 h2 h3 h4
    show am_up (am_up (am_up (am_up hm.1 128 _ k) 129 _ x) 130 _ w) 127 p _ q j = _
    rw [ak_up_out (fun z => h1 z.1), ak_up_out (fun z => h4 z.1), ak_up_out (fun z => h3 z.1), ak_up_out (fun z => h2 z.1)]
  exact ak_cm_fr c (fun j _ _ => g _ _ (by decide) (by decide) (by decide) (by decide)) (fun j => g _ _ (by decide) (by decide) (by decide) (by decide)) (fun j => g _ _ (by decide) (by decide) (by decide) (by decide)) (fun j => g _ _ (by decide) (by decide) (by decide) (by decide))
theorem am_s219 {ρ : List Nat} {Q : Int → ak_S → Prop} {X : Nat → ak_S → Prop} {k : Int} (M : ak_cm b n p hm a) (hst : ak_st b n a ≤ n) (hf : hm.1 110 37 < 0) (nm : ak_nms b n u p hc hm N) (hS : hm.1 127 p = (S : Int)) (hS2 : S ≤ 150)
    (w1 : ak_kd b n (ak_st b n a) = 2 → S < 150 → 0 ≤ ak_find (hc.2.1 (ak_T u + 14)) (ak_pk b (ak_st b n a) (ak_nx b n (ak_st b n a) - ak_st b n a)) N 0 → ∀ h', ak_cm b n p h' (a + 1) → ak_rfr (ak_siM hm p S k (ak_find (hc.2.1 (ak_T u + 14)) (ak_pk b (ak_st b n a) (ak_nx b n (ak_st b n a) - ak_st b n a)) N 0) ((ak_st b n a : Nat) : Int)) h' → Q (S : Int) h')
    (w2 : ak_kd b n (ak_st b n a) = 2 → S < 150 → ak_find (hc.2.1 (ak_T u + 14)) (ak_pk b (ak_st b n a) (ak_nx b n (ak_st b n a) - ak_st b n a)) N 0 < 0 → N < 100 → ∀ h', ak_cm b n p h' (a + 1) → ak_rfr (ak_siM (ak_nmM hm p N ((ak_st b n a : Nat) : Int) ((ak_nx b n (ak_st b n a) - ak_st b n a : Nat) : Int)) p S k (N : Int) ((ak_st b n a : Nat) : Int)) h' → Q (S : Int) h')
    (w0 : ¬ (ak_kd b n (ak_st b n a) = 2 ∧ S < 150 ∧ (0 ≤ ak_find (hc.2.1 (ak_T u + 14)) (ak_pk b (ak_st b n a) (ak_nx b n (ak_st b n a) - ak_st b n a)) N 0 ∨ N < 100)) → Q 0 (ak_wr hm)) :
    ak_MI e 1 (d + 6) ρ 219 [am_r 110, am_i k] hm Q X := by
  have hkM := M.2.2.1
  have hp := M.1.1
  have hp2 := M.1.2.1
  have b1 : 0 ≤ (p : Int) ∧ (p : Int) < 2 := by omega
  have b2 : S < 150 → 0 ≤ ((150 * p + S : Nat) : Int) ∧ ((150 * p + S : Nat) : Int) < 300 := by omega
  have hwS : am_w32 (((S + 1 : Nat) : Int) - 1) = (S : Int) := by
    rw [ak_w (((S + 1 : Nat) : Int) - 1) (by omega)]; omega
  by_cases hk2 : ak_kd b n (ak_st b n a) = 2
  · obtain ⟨hin, hl, wd, hv⟩ := ak_kd_word hk2
    have tokM : hm.1 110 33 = 2 := by rw [hkM]; exact hk2
    by_cases hS3 : S < 150
    · -- what is behind the name
      have rest : ∀ (x : Int) (h6 : ak_S), ak_cm b n p h6 a → h6.1 110 37 < 0 → h6.1 127 p = (S : Int) → (∀ h', ak_cm b n p h' (a + 1) → ak_rfr (ak_siM h6 p S k x ((ak_st b n a : Nat) : Int)) h' → Q (S : Int) h') →
          ak_MI e 1 (d + 5) ρ 206 [am_r 110] h6 (fun v7 h6 => (v7 = 0 → (0 ≤ h6.1 110 31 ∧ h6.1 110 31 < (2 : Int)) ∧ (0 ≤ am_w32 (am_w32 (150 * (h6.1 110 31)) + (h6.1 127 (h6.1 110 31).toNat)) ∧ am_w32 (am_w32 (150 * (h6.1 110 31)) + (h6.1 127 (h6.1 110 31).toNat)) < (300 : Int)) ∧ (0 ≤ am_w32 (am_w32 (150 * (h6.1 110 31)) + (h6.1 127 (h6.1 110 31).toNat)) ∧ am_w32 (am_w32 (150 * (h6.1 110 31)) + (h6.1 127 (h6.1 110 31).toNat)) < (300 : Int)) ∧ (0 ≤ am_w32 (am_w32 (150 * (h6.1 110 31)) + (h6.1 127 (h6.1 110 31).toNat)) ∧ am_w32 (am_w32 (150 * (h6.1 110 31)) + (h6.1 127 (h6.1 110 31).toNat)) < (300 : Int)) ∧ (0 ≤ h6.1 110 31 ∧ h6.1 110 31 < (2 : Int)) ∧ (0 ≤ h6.1 110 31 ∧ h6.1 110 31 < (2 : Int)) ∧
            ak_MV e 1 (d + 5) ρ 205 [am_r 110] ((am_up (am_up (am_up (am_up h6.1 128 (am_w32 (am_w32 (150 * (h6.1 110 31)) + (h6.1 127 (h6.1 110 31).toNat))).toNat k) 129 (am_w32 (am_w32 (150 * (h6.1 110 31)) + (h6.1 127 (h6.1 110 31).toNat))).toNat x) 130 (am_w32 (am_w32 (150 * (h6.1 110 31)) + (h6.1 127 (h6.1 110 31).toNat))).toNat (h6.1 110 34)) 127 (h6.1 110 31).toNat (am_w32 ((h6.1 127 (h6.1 110 31).toNat) + 1))), h6.2) (fun h8 =>
              (0 ≤ h8.1 110 31 ∧ h8.1 110 31 < (2 : Int)) ∧ Q (am_w32 ((h8.1 127 (h8.1 110 31).toNat) - 1)) h8) (fun _ _ => False)) ∧ (v7 ≠ 0 → Q 0 h6)) (fun _ _ => False) := by
        intro x h6 M6 f6 S6 wq
        have hp6 := M6.1.1
        refine am_s206 (fun _ => ⟨fun _ => ?_, fun q => absurd rfl q⟩) (fun q => absurd q (by omega))
        rw [hp6, ak_natn, S6, M6.2.2.2.1, show am_w32 (am_w32 (150 * (p : Int)) + (S : Int)) = ((150 * p + S : Nat) : Int) from ak_wmul (c := 150) (by omega), ak_natn, ak_wj (show S < 1000000 by omega)]
        refine ⟨b1, b2 hS3, b2 hS3, b2 hS3, b1, b1, ?_⟩
        refine am_rd (ak_cm_si (S := S) (k := k) (x := x) (w := ((ak_st b n a : Nat) : Int)) M6) hst (fun h' M' fr' => ?_)
        have e31 : h'.1 110 31 = (p : Int) := M'.1.1
        have e127 : h'.1 127 p = ((S + 1 : Nat) : Int) := by
          rw [fr'.1 127 p (by omega)]
          simp [ak_siM, am_up]
        rw [e31, ak_natn, e127, hwS]
        exact ⟨b1, wq h' M' fr'⟩
      refine ak_MI_of (Nat.le_of_ble_eq_true rfl) (am_k219_0 (am_s206 (fun _ => ⟨fun _ => ⟨fun q => absurd tokM q, fun _ => ?_⟩, fun q => absurd rfl q⟩) (fun q => absurd q (by omega))))
      rw [hp, ak_natn, hS]
      refine ⟨b1, fun _ => ?_, fun q => absurd q (by omega)⟩
      refine am_s218 M.1 hf nm tokM M.2.2.2.1 M.2.2.2.2.1 wd (fun r0 => rest _ hm M hf hS (w1 hk2 hS3 r0)) (fun r0 hN => rest _ _ (ak_cm_nm M) (by rw [ak_nm110 (by omega)]; exact hf) (by rw [ak_nm110 (by omega)]; exact hS) (w2 hk2 hS3 r0 hN)) (fun r0 hN => ?_)
      have hfw : 0 ≤ (ak_wr hm).1 110 37 := by
        show 0 ≤ am_up hm.1 110 37 (hm.1 110 34) 110 37
        rw [ak_up_eq, M.2.2.2.1]; omega
      exact am_s206 (fun q => absurd q (by omega)) (fun _ => ⟨fun q => absurd q (by decide), fun _ => w0 (fun z => z.2.2.elim (fun z => absurd z (by omega)) (fun z => absurd z (by omega)))⟩)
    · refine ak_MI_of (Nat.le_of_ble_eq_true rfl) (am_k219_0 (am_s206 (fun _ => ⟨fun _ => ⟨fun q => absurd tokM q, fun _ => ?_⟩, fun q => absurd rfl q⟩) (fun q => absurd q (by omega))))
      rw [hp, ak_natn, hS]
      refine ⟨b1, fun q => absurd (show (S : Int) = 150 by omega) q, fun _ => am_s207 (fun _ => w0 (fun z => hS3 z.2.1)) (fun q => absurd q (by omega))⟩
  · exact ak_MI_of (Nat.le_of_ble_eq_true rfl) (am_k219_0 (am_s206 (fun _ => ⟨fun _ => ⟨fun _ => am_s207 (fun _ => w0 (fun z => hk2 z.1)) (fun q => absurd q (by omega)), fun q => absurd (hkM.symm.trans q) hk2⟩, fun q => absurd rfl q⟩) (fun q => absurd q (by omega))))
end LKS
