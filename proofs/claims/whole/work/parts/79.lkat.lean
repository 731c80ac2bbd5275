/-! atoms, both sides at once -/
section LKAT
variable {e : ak_X3} {d u p : Nat} {b : Nat → Int} {n m lv o Mt : Nat} {D : Nat → Nat} {z : Nat → Nat} {hc hm : ak_S} {ρ : List Nat}
/-- nil, self, lobby, new -/
theorem lk_four {ρ0 ρ3 ρ4 : Nat} (hu : u = 0 ∨ u = 1) (w : ak_PI u p b n m lv D o Mt z hc hm) (t : ak_POT b n o 2 z) (hk : ak_kd b n (ak_st b n (z 0)) = 219 ∨ ak_kd b n (ak_st b n (z 0)) = 220 ∨ ak_kd b n (ak_st b n (z 0)) = 221 ∨ ak_kd b n (ak_st b n (z 0)) = 222) :
    ak_MV e 0 (d + 2) [ρ0, ak_T u, ak_T u + 1, ρ3, ρ4] 46 [am_r 2] hc (ak_XQ e ρ (d + 4) 228 u p b n m lv D o Mt z hc hm) (ak_XX e ρ (d + 4) 228 u p hc hm) := by
  have hkC := w.1.2.2.2.2.1
  have hkM := w.2.1.2.2.1
  have hf := w.2.2.1
  have rm := ak_room w (by decide) t
  have hst := (ak_st_n w).1
  have ham : z 0 < m := ak_cc_lt w.1 (by omega)
  have hp := w.2.1.1.1
  have hp2 := w.2.1.1.2.1
  have hz := w.2.2.2.2.2.2.2.2.2.1
  -- the one, the other, with order r and node k
  have go : ∀ r k : Int, (∀ C M : Nat → Nat → Int, C (ak_T u + 2) (z 1) = r → M 114 (9000 * p + z 2) = k → ak_X0 C M (ak_T u) p 1 1 ((9000 * p + z 2 : Nat) : Int) (ak_lt Mt lv) (z 1) (z 1 + 1)) →
      (∀ (Q : Int → ak_S → Prop) (X : Nat → ak_S → Prop), ak_MI e 1 (d + 3) ρ 212 [am_r 110, am_i k, am_i 0] hm (fun v h1 => ak_MV e 1 (d + 3) ρ 205 [am_r 110] h1 (fun h2 => Q v h2) (fun _ _ => False)) (fun _ _ => False) → ak_MI e 1 (d + 4) ρ 228 [am_r 110] hm Q X) →
      ak_MI e 0 (d + 1) [ρ0, ak_T u, ak_T u + 1, ρ3, ρ4] 3 [am_r (ak_T u + 1), am_i r, am_i 0] hc (fun _ h1 => ak_MV e 0 (d + 1) [ρ0, ak_T u, ak_T u + 1, ρ3, ρ4] 128 [am_r 3] h1 (ak_XQ e ρ (d + 4) 228 u p b n m lv D o Mt z hc hm) (fun _ _ => False)) (fun _ _ => False) := by
    intro r k tr run
    refine ak_at_C hu w rm.1 ham (fun hc' C' fr => ?_)
    have wn := ak_PI_node hu (ak_PI_put hu w (r := r) (x := 0)) (k := k) (r := 0)
    have en : ak_ext u p z (ak_zu (ak_zu z 1 (z 1 + 1)) 2 (z 2 + 1)) hc hm (ak_put hc u (z 1) r 0) (ak_node hm p (z 2) k 0) := ak_ext_trans (ak_ext_put hu) (ak_ext_node (show z 2 < 9000 by omega))
    have e114 : (ak_node hm p (z 2) k 0).1 114 (9000 * p + z 2) = k := by simp [ak_node, am_up]
    obtain ⟨hm', ⟨M', fr'⟩, rd⟩ := ak_MV_get (e := e) (r := 1) (d := d + 3) (ρ := ρ) (am_rd (X := ak_F) wn.2.1 hst (fun h' c f => (⟨c, f⟩ : ak_cm b n p h' (z 0 + 1) ∧ ak_rfr (ak_node hm p (z 2) k 0) h')))
    refine ⟨_, _, hm', ak_at_end hu w ham wn en C' fr M' fr' (fun C M h1 h2 h3 => tr C M h1 ((h3 114 (by decide) (by decide)).trans e114)), fun Q X q => run Q X ?_⟩
    exact am_s212 hp hp2 hz (by omega) (rd _ _ q)
  refine ak_MV_of (Nat.le_of_ble_eq_true rfl) (am_k46_0 hu ?_)
  rw [hkC]
  refine ⟨trivial, fun q => ?_, fun q => absurd q (by omega), fun q => absurd q (by omega), fun q => ?_, fun q => ?_, fun q => ?_, fun q => ?_, trivial⟩
  · exfalso
    obtain ⟨q1, q2, q3, q4, q5, q6, -⟩ := q
    omega
  · have tk : hm.1 110 33 = 219 := hkM.trans q
    refine go 4 5 (fun C M h1 h2 k i hk hi => ak_T3_fold ⟨_, rfl, ⟨hk, hi⟩, Or.inr (Or.inr (Or.inr (Or.inr (Or.inl ⟨h2, rfl, h1⟩))))⟩) (fun Q X run => ak_MI_of (Nat.le_of_ble_eq_true rfl) (am_k228_0 (am_s206 (fun _ => ⟨fun _ => ?_, fun q => absurd rfl q⟩) (fun q => absurd q (by omega)))))
    refine ⟨trivial, ?_⟩
    rw [tk]
    refine ⟨fun q => absurd rfl q.2.2.2.2.2.1, fun q => absurd q (by decide), fun q => absurd q (by decide), fun q => absurd q (by decide), fun q => absurd q (by decide), fun q => absurd q (by decide), fun _ => am_k228_127 ?_, fun q => absurd q (by decide), fun q => absurd q (by decide), fun q => absurd q (by decide), fun q => absurd q (by decide), trivial⟩
    rw [tk]
    exact ⟨fun _ => ⟨fun _ => ⟨fun _ => run, fun q => absurd q (by decide)⟩, fun q => absurd q (by decide)⟩, fun q => absurd q (by decide)⟩
  · have tk : hm.1 110 33 = 220 := hkM.trans q
    refine go 1 2 (fun C M h1 h2 k i hk hi => ak_T3_fold ⟨_, rfl, ⟨hk, hi⟩, Or.inr (Or.inl ⟨h2, rfl, h1⟩)⟩) (fun Q X run => ak_MI_of (Nat.le_of_ble_eq_true rfl) (am_k228_0 (am_s206 (fun _ => ⟨fun _ => ?_, fun q => absurd rfl q⟩) (fun q => absurd q (by omega)))))
    refine ⟨trivial, ?_⟩
    rw [tk]
    refine ⟨fun q => absurd rfl q.2.2.2.2.2.2.1, fun q => absurd q (by decide), fun q => absurd q (by decide), fun q => absurd q (by decide), fun q => absurd q (by decide), fun q => absurd q (by decide), fun q => absurd q (by decide), fun _ => am_k228_127 ?_, fun q => absurd q (by decide), fun q => absurd q (by decide), fun q => absurd q (by decide), trivial⟩
    rw [tk]
    exact ⟨fun q => absurd rfl q, fun _ => run⟩
  · have tk : hm.1 110 33 = 221 := hkM.trans q
    refine go 2 3 (fun C M h1 h2 k i hk hi => ak_T3_fold ⟨_, rfl, ⟨hk, hi⟩, Or.inr (Or.inr (Or.inl ⟨h2, rfl, h1⟩))⟩) (fun Q X run => ak_MI_of (Nat.le_of_ble_eq_true rfl) (am_k228_0 (am_s206 (fun _ => ⟨fun _ => ?_, fun q => absurd rfl q⟩) (fun q => absurd q (by omega)))))
    refine ⟨trivial, ?_⟩
    rw [tk]
    refine ⟨fun q => absurd rfl q.2.2.2.2.2.2.2.1, fun q => absurd q (by decide), fun q => absurd q (by decide), fun q => absurd q (by decide), fun q => absurd q (by decide), fun q => absurd q (by decide), fun q => absurd q (by decide), fun q => absurd q (by decide), fun _ => am_k228_127 ?_, fun q => absurd q (by decide), fun q => absurd q (by decide), trivial⟩
    rw [tk]
    exact ⟨fun _ => ⟨fun q => absurd rfl q, fun _ => run⟩, fun q => absurd q (by decide)⟩
  · have tk : hm.1 110 33 = 222 := hkM.trans q
    refine go 3 4 (fun C M h1 h2 k i hk hi => ak_T3_fold ⟨_, rfl, ⟨hk, hi⟩, Or.inr (Or.inr (Or.inr (Or.inl ⟨h2, rfl, h1⟩)))⟩) (fun Q X run => ak_MI_of (Nat.le_of_ble_eq_true rfl) (am_k228_0 (am_s206 (fun _ => ⟨fun _ => ?_, fun q => absurd rfl q⟩) (fun q => absurd q (by omega)))))
    refine ⟨trivial, ?_⟩
    rw [tk]
    refine ⟨fun q => absurd rfl q.2.2.2.2.2.2.2.2.1, fun q => absurd q (by decide), fun q => absurd q (by decide), fun q => absurd q (by decide), fun q => absurd q (by decide), fun q => absurd q (by decide), fun q => absurd q (by decide), fun q => absurd q (by decide), fun q => absurd q (by decide), fun _ => am_k228_127 ?_, fun q => absurd q (by decide), trivial⟩
    rw [tk]
    exact ⟨fun _ => ⟨fun _ => ⟨fun q => absurd rfl q, fun _ => run⟩, fun q => absurd q (by decide)⟩, fun q => absurd q (by decide)⟩
end LKAT
