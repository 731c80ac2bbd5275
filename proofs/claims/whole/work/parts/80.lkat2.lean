/-! numerals, words, what is no atom -/
section LKAT2
variable {e : ak_X3} {d u p : Nat} {b : Nat → Int} {n m lv o Mt : Nat} {D : Nat → Nat} {z : Nat → Nat} {hc hm : ak_S} {ρ : List Nat}
theorem ak_WR_at {f : Nat} (hf2 : f ≤ 10) (w : ak_PI u p b n m lv D o Mt z hc hm) (t : ak_POT b n o f z) : ak_WR u p hc hm (ak_th hc) (ak_wr hm) := by
  have rm := ak_room w hf2 t
  have hop := w.2.2.2.1
  have h34 := w.2.1.2.2.2.1
  have h39 := w.1.2.2.2.2.2.1
  have hz := w.2.2.2.2.2.2.2.2.2.1
  have e1 : (ak_wr hm).1 110 37 = ((ak_st b n (z 0) : Nat) : Int) := by
    show am_up hm.1 110 37 (hm.1 110 34) 110 37 = _
    rw [ak_up_eq, h34]
  have e2 : (ak_wr hm).1 121 p = (z 2 : Int) := by
    show am_up hm.1 110 37 (hm.1 110 34) 121 p = _
    rw [ak_up_out (by omega), hz]
  refine ⟨by omega, ?_, ak_pC_th, ak_pM_wr, by omega, by omega, rfl, rfl⟩
  rw [e1]
  exact h39.symm
/-- a numeral -/
theorem lk_num {ρ0 ρ3 ρ4 : Nat} (hu : u = 0 ∨ u = 1) (w : ak_PI u p b n m lv D o Mt z hc hm) (t : ak_POT b n o 2 z) (hk : ak_kd b n (ak_st b n (z 0)) = 3) :
    ak_MV e 0 (d + 2) [ρ0, ak_T u, ak_T u + 1, ρ3, ρ4] 46 [am_r 2] hc (ak_XQ e ρ (d + 4) 228 u p b n m lv D o Mt z hc hm) (ak_XX e ρ (d + 4) 228 u p hc hm) := by
  have hkC := w.1.2.2.2.2.1
  have tk : hm.1 110 33 = 3 := w.2.1.2.2.1.trans hk
  have hf := w.2.2.1
  have rm := ak_room w (by decide) t
  have hst := (ak_st_n w).1
  have ham : z 0 < m := ak_cc_lt w.1 (by omega)
  have hp := w.2.1.1.1
  have hp2 := w.2.1.1.2.1
  have hz := w.2.2.2.2.2.2.2.2.2.1
  obtain ⟨n1, n2, n3, ⟨n4, n5⟩, n6⟩ := ak_kd_num hk
  have v36 := w.2.1.2.2.2.2.2 n1 n2 n3
  have v10 : hc.2.1 3 10 = ak_nu b (ak_st b n (z 0)) (ak_nx b n (ak_st b n (z 0)) - ak_st b n (z 0)) := by
    rw [w.1.2.2.2.2.2.2]
    exact n6 _ (w.1.2.1 (z 0) w.1.1.1).2.2
  have vv : am_w32 (hc.2.1 3 10) = hm.1 110 36 := by
    rw [v10, v36, ak_w _ (by omega)]
  refine ak_MV_of (Nat.le_of_ble_eq_true rfl) (am_k46_0 hu ?_)
  rw [hkC, hk, vv]
  refine ⟨trivial, fun q => absurd rfl q.2.1, fun q => absurd q (by decide), fun _ => ?_, fun q => absurd q (by decide), fun q => absurd q (by decide), fun q => absurd q (by decide), fun q => absurd q (by decide), trivial⟩
  refine ak_at_C hu w rm.1 ham (fun hc' C' fr => ?_)
  have wn := ak_PI_node hu (ak_PI_put hu w (r := 0) (x := hm.1 110 36)) (k := 1) (r := 0)
  have en : ak_ext u p z (ak_zu (ak_zu z 1 (z 1 + 1)) 2 (z 2 + 1)) hc hm (ak_put hc u (z 1) 0 (hm.1 110 36)) (ak_node hm p (z 2) 1 0) := ak_ext_trans (ak_ext_put hu) (ak_ext_node (show z 2 < 9000 by omega))
  have wn2 := ak_PI_cell hu wn (q := 115) (k := 9000 * p + z 2) (v := hm.1 110 36) (Or.inl (by decide))
  have en2 := ak_ext_cell en (q := 115) (k := 9000 * p + z 2) (v := hm.1 110 36) (by decide) (Nat.le_refl _) (by omega)
  have e36 : (ak_node hm p (z 2) 1 0).1 110 36 = hm.1 110 36 := ak_node_at (by omega) (by omega)
  have e114 : am_up (ak_node hm p (z 2) 1 0).1 115 (9000 * p + z 2) (hm.1 110 36) 114 (9000 * p + z 2) = 1 := by simp [ak_node, am_up]
  have e115 : am_up (ak_node hm p (z 2) 1 0).1 115 (9000 * p + z 2) (hm.1 110 36) 115 (9000 * p + z 2) = hm.1 110 36 := by simp [am_up]
  obtain ⟨hm', ⟨M', fr'⟩, rd⟩ := ak_MV_get (e := e) (r := 1) (d := d + 3) (ρ := ρ) (am_rd (X := ak_F) wn2.2.1 hst (fun h' c f => (⟨c, f⟩ : ak_cm b n p h' (z 0 + 1) ∧ ak_rfr (am_up (ak_node hm p (z 2) 1 0).1 115 (9000 * p + z 2) (hm.1 110 36), (ak_node hm p (z 2) 1 0).2) h')))
  refine ⟨_, _, hm', ak_at_end hu w ham wn2 en2 C' fr M' fr' (fun C M h1 h2 h3 k i hk hi => ak_T3_fold ⟨_, rfl, ⟨hk, hi⟩, Or.inl ⟨(h3 114 (by decide) (by decide)).trans e114, rfl, h1, h2.trans ((h3 115 (by decide) (by decide)).trans e115).symm, by rw [(h3 115 (by decide) (by decide)).trans e115, v36]; exact ⟨n4, n5⟩⟩⟩), fun Q X q => ak_MI_of (Nat.le_of_ble_eq_true rfl) (am_k228_0 (am_s206 (fun _ => ⟨fun _ => ?_, fun q => absurd rfl q⟩) (fun q => absurd q (by omega))))⟩
  refine ⟨trivial, ?_⟩
  rw [tk]
  refine ⟨fun q => absurd rfl q.2.1, fun q => absurd q (by decide), fun _ => ?_, fun q => absurd q (by decide), fun q => absurd q (by decide), fun q => absurd q (by decide), fun q => absurd q (by decide), fun q => absurd q (by decide), fun q => absurd q (by decide), fun q => absurd q (by decide), fun q => absurd q (by decide), trivial⟩
  refine am_s212 hp hp2 hz (by omega) ?_
  rw [ak_natn, e36]
  exact ⟨by omega, rd _ _ q⟩
/-- no atom -/
theorem lk_none {ρ0 ρ3 ρ4 : Nat} (hu : u = 0 ∨ u = 1) (w : ak_PI u p b n m lv D o Mt z hc hm) (t : ak_POT b n o 2 z) (hk : ∀ k, k = 2 ∨ k = 3 ∨ k = 40 ∨ k = 91 ∨ (218 ≤ k ∧ k ≤ 223) → ak_kd b n (ak_st b n (z 0)) ≠ k) :
    ak_MV e 0 (d + 2) [ρ0, ak_T u, ak_T u + 1, ρ3, ρ4] 46 [am_r 2] hc (ak_XQ e ρ (d + 4) 228 u p b n m lv D o Mt z hc hm) (ak_XX e ρ (d + 4) 228 u p hc hm) := by
  have hkC := w.1.2.2.2.2.1
  have tk := w.2.1.2.2.1
  have hf := w.2.2.1
  have k2 := hk 2 (by decide)
  have k3 := hk 3 (by decide)
  have k40 := hk 40 (by decide)
  have k91 := hk 91 (by decide)
  have k218 := hk 218 (by decide)
  have k219 := hk 219 (by decide)
  have k220 := hk 220 (by decide)
  have k221 := hk 221 (by decide)
  have k222 := hk 222 (by decide)
  have k223 := hk 223 (by decide)
  refine ak_MV_of (Nat.le_of_ble_eq_true rfl) (am_k46_0 hu ?_)
  rw [hkC]
  refine ⟨trivial, fun _ => ?_, fun q => absurd q k2, fun q => absurd q k3, fun q => absurd q k219, fun q => absurd q k220, fun q => absurd q k221, fun q => absurd q k222, trivial⟩
  refine am_s10 hu (fun q => absurd rfl q) (fun _ => ⟨rfl, -1, ak_wr hm, ak_WR_at (by decide) w t, fun Q X q => ak_MI_of (Nat.le_of_ble_eq_true rfl) (am_k228_0 (am_s206 (fun _ => ⟨fun _ => ?_, fun q => absurd rfl q⟩) (fun q => absurd q (by omega))))⟩)
  refine ⟨trivial, ?_⟩
  rw [tk]
  exact ⟨fun _ => am_s207 (fun _ => q) (fun q => absurd q (by omega)), fun q => absurd q k2, fun q => absurd q k3, fun q => absurd q k40, fun q => absurd q k91, fun q => absurd q k218, fun q => absurd q k219, fun q => absurd q k220, fun q => absurd q k221, fun q => absurd q k222, fun q => absurd q k223, trivial⟩
end LKAT2
