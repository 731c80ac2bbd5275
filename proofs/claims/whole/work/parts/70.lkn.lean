/-! a name read, side by side -/
section LKN
variable {e : ak_X3} {d : Nat} {b : Nat → Int} {n m p u a N : Nat} {hc hm : ak_S}
theorem ak_cc_fr {h h' : ak_S} (c : ak_cc b n m h a) (f3 : ∀ k, h'.1 3 k = h.1 3 k) (f6 : ∀ k, h'.1 6 k = h.1 6 k) (f7 : ∀ k, h'.1 7 k = h.1 7 k) (j3 : h'.2.1 3 10 = h.2.1 3 10) (j8 : ∀ k, h'.2.1 8 k = h.2.1 8 k) : ak_cc b n m h' a := by
  obtain ⟨c1, c2, c3, c4, c5, c6, c7⟩ := c
  refine ⟨c1, fun k hk => ?_, by rw [f3]; exact c3, by rw [f3]; exact c4, by rw [f3]; exact c5, by rw [f3]; exact c6, by rw [j3, j8]; exact c7⟩
  obtain ⟨t1, t2, t3⟩ := c2 k hk
  exact ⟨by rw [f7]; exact t1, by rw [f6]; exact t2, by rw [j8]; exact t3⟩
theorem ak_cm_fr {h h' : ak_S} (c : ak_cm b n p h a) (f : ∀ k, 31 ≤ k → k ≤ 36 → h'.1 110 k = h.1 110 k) (f112 : ∀ k, h'.1 112 k = h.1 112 k) (f113 : ∀ k, h'.1 113 k = h.1 113 k) (f137 : ∀ k, h'.1 137 k = h.1 137 k) : ak_cm b n p h' a := by
  obtain ⟨⟨m1, m2, m3, m4, m5, m6⟩, c1, c2, c3, c4, c5⟩ := c
  refine ⟨⟨?_, m2, ?_, m4, fun k hk => ?_, fun k hk => ?_⟩, ?_, ?_, ?_, ?_, fun g1 g2 g3 => ?_⟩
  · rw [f 31 (by omega) (by omega)]; exact m1
  · rw [f113]; exact m3
  · rw [f112]; exact m5 k hk
  · rw [f137]; exact m6 k hk
  · rw [f 32 (by omega) (by omega)]; exact c1
  · rw [f 33 (by omega) (by omega)]; exact c2
  · rw [f 34 (by omega) (by omega)]; exact c3
  · rw [f 35 (by omega) (by omega)]; exact c4
  · rw [f 36 (by omega) (by omega)]; exact c5 g1 g2 g3
theorem ak_T_in (hu : u = 0 ∨ u = 1) : ak_T u = 9 ∨ ak_T u = 87 := by rcases hu with rfl | rfl <;> decide
theorem ak_cc_nm (hu : u = 0 ∨ u = 1) {w : Int} (c : ak_cc b n m hc a) : ak_cc b n m (ak_nmC hc u N w) a := by
  have hT := ak_T_in hu
  refine ak_cc_fr c (fun k => ?_) (fun k => ?_) (fun k => ?_) ?_ (fun k => ?_)
  · exact ak_up_out (fun z => by omega)
  · exact ak_up_out (fun z => by omega)
  · exact ak_up_out (fun z => by omega)
  · show am_up hc.2.1 (ak_T u + 14) N w 3 10 = _
    exact ak_up_out (fun z => by omega)
  · show am_up hc.2.1 (ak_T u + 14) N w 8 k = _
    exact ak_up_out (fun z => by omega)
theorem ak_nm110 {k q : Nat} {i z : Int} (hq : q ≠ 131 ∧ q ≠ 132 ∧ q ≠ 133) : (ak_nmM hm p N i z).1 q k = hm.1 q k := by
  show am_up (am_up (am_up hm.1 132 (100 * p + N) i) 133 (100 * p + N) z) 131 p _ q k = _
  rw [ak_up_out (fun z => by omega), ak_up_out (fun z => by omega), ak_up_out (fun z => by omega)]
theorem ak_cm_nm {i z : Int} (c : ak_cm b n p hm a) : ak_cm b n p (ak_nmM hm p N i z) a :=
  ak_cm_fr c (fun k _ _ => ak_nm110 (by omega)) (fun k => ak_nm110 (by omega)) (fun k => ak_nm110 (by omega)) (fun k => ak_nm110 (by omega))
/-- what reading a name changes -/
def ak_fnC (u : Nat) (h h' : ak_S) : Prop := (∀ q k, ¬ (q = ak_T u ∧ k = 6) → ¬ (q = 3 ∧ 7 ≤ k ∧ k ≤ 9) → h'.1 q k = h.1 q k) ∧ (∀ q k, q ≠ ak_T u + 14 → ¬ (q = 3 ∧ k = 10) → h'.2.1 q k = h.2.1 q k) ∧ h'.2.2 = h.2.2
def ak_fnM (h h' : ak_S) : Prop := (∀ q k, q ≠ 131 → q ≠ 132 → q ≠ 133 → ¬ (q = 110 ∧ 32 ≤ k ∧ k ≤ 36) → h'.1 q k = h.1 q k) ∧ h'.2 = h.2
theorem ak_st_le {k : Nat} (c : ak_cc b n m hc a) (hk : k ≤ m) : ak_st b n k ≤ n := by
  obtain ⟨⟨c1, c2, c3, c4⟩, -⟩ := c
  rcases Nat.lt_or_ge k m with g | g
  · exact Nat.le_of_lt (c4 k g)
  · have : k = m := by omega
    subst this; omega
theorem lk_name {ρ0 ρ3 ρ4 : Nat} {ρ : List Nat} (hu : u = 0 ∨ u = 1) (C : ak_cc b n m hc a) (M : ak_cm b n p hm a) (hf : hm.1 110 37 < 0) (nm : ak_nms b n u p hc hm N) :
    ak_MI e 0 (d + 3) [ρ0, ak_T u, ak_T u + 1, ρ3, ρ4] 43 [am_r 2] hc
      (fun x hc' => ak_MI e 1 (d + 5) ρ 220 [am_r 110] hm (fun y hm' => y = x ∧ ak_kd b n (ak_st b n a) = 2 ∧ ak_cc b n m hc' (a + 1) ∧ ak_cm b n p hm' (a + 1) ∧ hm'.1 110 37 < 0 ∧ (∃ N', N ≤ N' ∧ ak_nms b n u p hc' hm' N' ∧ 0 ≤ x ∧ x < (N' : Int)) ∧ ak_fnC u hc hc' ∧ ak_fnM hm hm' ∧ ak_pM p hm hm') ak_F)
      (fun ex hc' => ex = 0 ∧ hc' = ak_th hc ∧ ak_MI e 1 (d + 5) ρ 220 [am_r 110] hm (fun _ hm' => hm' = ak_wr hm) ak_F) := by
  have hkC := C.2.2.2.2.1
  have hkM := M.2.2.1
  have hstn := ak_st_le C C.1.1
  have hfw : 0 ≤ (ak_wr hm).1 110 37 := by
    show 0 ≤ am_up hm.1 110 37 (hm.1 110 34) 110 37
    rw [ak_up_eq, M.2.2.2.1]; omega
  by_cases hk2 : ak_kd b n (ak_st b n a) = 2
  · obtain ⟨hin, hl, wd, hv⟩ := ak_kd_word hk2
    have hval : hc.2.1 3 10 = ak_pk b (ak_st b n a) (ak_nx b n (ak_st b n a) - ak_st b n a) := by
      rw [C.2.2.2.2.2.2]
      exact hv _ (C.2.1 a C.1.1).2.2
    have ham : a < m := ak_cc_lt C (by rw [hk2]; decide)
    have tokM : hm.1 110 33 = 2 := by rw [hkM]; exact hk2
    refine ak_MI_of (Nat.le_of_ble_eq_true rfl) (am_k43_0 hu ⟨fun q => absurd (hkC.trans hk2) q, fun _ => am_k43_16 hu (am_s10 hu (fun _ => ?_) (fun q => absurd q (by decide)))⟩)
    rw [hval]
    refine am_s136 hu nm.2.2.1 nm.2.1 (fun r0 => ⟨fun q => absurd q (by omega), fun _ => am_s10 hu (fun _ => ?_) (fun q => absurd q (by decide))⟩) (fun r0 hN => ⟨fun q => absurd q (by omega), fun _ => am_s10 hu (fun _ => ?_) (fun q => absurd q (by decide))⟩)
      (fun r0 hN => ⟨fun _ => am_s10 hu (fun q => absurd rfl q) (fun _ => ⟨rfl, rfl, ?_⟩), fun q => absurd q (by decide)⟩)
    · -- known
      refine am_adv C ham (fun hc' C' fr => ?_)
      have rlt : ak_find (hc.2.1 (ak_T u + 14)) (ak_pk b (ak_st b n a) (ak_nx b n (ak_st b n a) - ak_st b n a)) N 0 < (N : Int) := by
        rcases ak_find_in (f := hc.2.1 (ak_T u + 14)) (w := ak_pk b (ak_st b n a) (ak_nx b n (ak_st b n a) - ak_st b n a)) N 0 with q | ⟨j, q1, q2, q3, -⟩
        · omega
        · omega
      refine ak_MI_of (Nat.le_of_ble_eq_true rfl) (am_k220_0 (am_s218 M.1 hf nm tokM M.2.2.2.1 M.2.2.2.2.1 wd (fun _ => am_s206 (fun _ => ⟨fun q => absurd rfl q, fun _ => am_rd M hstn (fun hm' M' fr' => ?_)⟩) (fun q => absurd q (by omega))) (fun q => absurd q (by omega)) (fun q => absurd q (by omega))))
      have hT := ak_T_in hu
      refine ⟨rfl, hk2, C', M', by rw [fr'.1 110 37 (by omega)]; exact hf, ⟨N, Nat.le_refl _, ak_nms_fr nm ?_ (fun k => ?_) ?_ (fun k => ?_) (fun k => ?_), r0, rlt⟩, ⟨fun q k _ h3 => fr.1 q k h3, fun q k _ h3 => fr.2.1 q k h3, fr.2.2⟩, ⟨fun q k _ _ _ h => fr'.1 q k h, fr'.2⟩, ak_pM_rfr fr'⟩
      · exact fr.1 _ _ (by omega)
      · exact fr.2.1 _ _ (by omega)
      · exact fr'.1 _ _ (by omega)
      · exact fr'.1 _ _ (by omega)
      · exact fr'.1 _ _ (by omega)
    · -- new
      refine am_adv (ak_cc_nm hu C) ham (fun hc' C' fr => ?_)
      have f37 : (ak_nmM hm p N ((ak_st b n a : Nat) : Int) ((ak_nx b n (ak_st b n a) - ak_st b n a : Nat) : Int)).1 110 37 < 0 := by rw [ak_nm110 (by omega)]; exact hf
      refine ak_MI_of (Nat.le_of_ble_eq_true rfl) (am_k220_0 (am_s218 M.1 hf nm tokM M.2.2.2.1 M.2.2.2.2.1 wd (fun q => absurd q (by omega)) (fun _ _ => am_s206 (fun _ => ⟨fun q => absurd rfl q, fun _ => am_rd (ak_cm_nm M) hstn (fun hm' M' fr' => ?_)⟩) (fun q => absurd q (by omega))) (fun _ q => absurd q (by omega))))
      have hT := ak_T_in hu
      refine ⟨rfl, hk2, C', M', by rw [fr'.1 110 37 (by omega)]; exact f37, ⟨N + 1, by omega, ak_nms_fr (ak_nms_new hu nm hN wd) ?_ (fun k => ?_) ?_ (fun k => ?_) (fun k => ?_), by omega, by omega⟩, ⟨fun q k h1 h3 => ?_, fun q k h1 h3 => ?_, fr.2.2⟩, ⟨fun q k h1 h2 h3 h => ?_, fr'.2⟩, ak_pM_trans (ak_pM_nm hN) (ak_pM_rfr fr')⟩
      · exact fr.1 _ _ (by omega)
      · exact fr.2.1 _ _ (by omega)
      · exact fr'.1 _ _ (by omega)
      · exact fr'.1 _ _ (by omega)
      · exact fr'.1 _ _ (by omega)
      · exact (fr.1 q k h3).trans (ak_up_out h1)
      · exact (fr.2.1 q k h3).trans (ak_up_out (fun z => h1 z.1))
      · exact (fr'.1 q k h).trans (ak_nm110 ⟨h1, h2, h3⟩)
    · -- full
      exact ak_MI_of (Nat.le_of_ble_eq_true rfl) (am_k220_0 (am_s218 M.1 hf nm tokM M.2.2.2.1 M.2.2.2.2.1 wd (fun q => absurd q (by omega)) (fun _ q => absurd q (by omega)) (fun _ _ => am_s206 (fun q => absurd q (by omega)) (fun _ => ⟨fun _ => rfl, fun q => absurd q (by decide)⟩))))
  · refine ak_MI_of (Nat.le_of_ble_eq_true rfl) (am_k43_0 hu ⟨fun _ => am_k43_16 hu (am_s10 hu (fun q => absurd rfl q) (fun _ => ⟨rfl, rfl, ?_⟩)), fun q => absurd (hkC.symm.trans q) hk2⟩)
    refine ak_MI_of (Nat.le_of_ble_eq_true rfl) (am_k220_0 (ak_MI_of (Nat.le_of_ble_eq_true rfl) (am_k218_0 (am_s206 (fun _ => ⟨fun _ => ⟨fun q => absurd (hkM.symm.trans q) hk2, fun _ => am_s207 (fun _ => ?_) (fun q => absurd q (by omega))⟩, fun q => absurd rfl q⟩) (fun q => absurd q (by omega))))))
    exact am_s206 (fun q => absurd hfw (by exact Int.not_le.mpr q)) (fun _ => ⟨fun _ => rfl, fun q => absurd q (by decide)⟩)
end LKN
