/-! lists made while reading: the last one's next is still to come -/
section LIST
variable {e : ak_X3} {d u p : Nat} {b : Nat → Int} {n m lv o Mt a : Nat} {D : Nat → Nat} {z z1 z2 z3 za zb : Nat → Nat} {hc hm hc1 hm1 hc2 hm2 hc3 hm3 hc' hm' : ak_S} {ρ : List Nat}
theorem ak_up_at {f : Nat → Nat → Int} {q k : Nat} {v : Int} : am_up f q k v q k = v := by unfold am_up; rw [if_pos rfl, if_pos rfl]
theorem ak_goI_up {k j : Nat} {ar : List am_V} {v : Int} (g : ak_goI e d ρ j ar hm v hm') : ak_goI e (d + k) ρ j ar hm v hm' := fun Q X q => ak_MI_deep (Nat.le_add_right _ _) (g Q X q)
theorem am_s211 {Q : ak_S → Prop} {X : Nat → ak_S → Prop} {t : Int} (hf : hm.1 110 37 < 0) (c : ak_cm b n p hm a) (hst : ak_st b n a ≤ n) (ho : hm.1 110 38 = ((o + 1 : Nat) : Int)) (ho2 : o ≤ 20)
    (w1 : ak_kd b n (ak_st b n a) = t → ∀ h', ak_cm b n p h' (a + 1) → ak_rfr hm h' → Q (am_up h'.1 110 38 (o : Int), h'.2)) (w0 : ak_kd b n (ak_st b n a) ≠ t → Q (am_up (ak_wr hm).1 110 38 (o : Int), (ak_wr hm).2)) : ak_MV e 1 (d + 5) ρ 211 [am_r 110, am_i t] hm Q X := by
  refine ak_MV_of (Nat.le_of_ble_eq_true rfl) (am_k211_0 (am_s209 hf c hst (fun k h' c' f => ?_) (fun k => ?_)))
  · have e1 : h'.1 110 38 = ((o + 1 : Nat) : Int) := (f.1 110 38 (by omega)).trans ho
    rw [e1, ak_wlv ho2]
    exact w1 k h' c' f
  · have e1 : (ak_wr hm).1 110 38 = ((o + 1 : Nat) : Int) := by
      show am_up hm.1 110 37 (hm.1 110 34) 110 38 = _
      rw [ak_up_out (by omega), ho]
    rw [e1, ak_wlv ho2]
    exact w0 k
theorem ak_WR_up (w : ak_WR u p hc hm hc' hm') {k : Nat} (hk : k = 38 ∨ k = 45) {v : Int} : ak_WR u p hc hm hc' (am_up hm'.1 110 k v, hm'.2) := by
  obtain ⟨w1, w2, w3, w4, w5, w6, w7, w8⟩ := w
  have e1 : am_up hm'.1 110 k v 110 37 = hm'.1 110 37 := ak_up_out (by omega)
  have e2 : am_up hm'.1 110 k v 121 p = hm'.1 121 p := ak_up_out (by omega)
  refine ⟨?_, ?_, w3, ak_pM_upI w4 (Or.inl ⟨rfl, by omega⟩), ?_, ?_, w7, w8⟩
  · show 0 ≤ am_up hm'.1 110 k v 110 37
    rw [e1]; exact w1
  · show am_up hm'.1 110 k v 110 37 = _
    rw [e1]; exact w2
  · show 0 ≤ am_up hm'.1 110 k v 121 p
    rw [e2]; exact w5
  · show am_up hm'.1 110 k v 121 p + _ ≤ _
    rw [e2]; exact w6
theorem ak_WR_wf (w : ak_WR u p hc hm hc' hm') (f : ak_wf hm' hm2) : ak_WR u p hc hm hc' hm2 := by
  obtain ⟨w1, w2, w3, w4, w5, w6, w7, w8⟩ := w
  have e1 := f.1 110 37 (by omega)
  have e2 := f.1 121 p (by omega)
  have f2 := f.2
  refine ⟨by rw [e1]; exact w1, by rw [e1]; exact w2, w3, ak_pM_trans w4 ⟨fun q k h => f.1 q k (fun g => h (Or.inl ⟨g.1, by omega⟩)), by rw [f2]⟩, by rw [e2]; exact w5, by rw [e2]; exact w6, w7, by rw [f2]; exact w8⟩
theorem ak_WR_cell (w : ak_WR u p hc hm hc' hm') {q k : Nat} {v : Int} (hq : 114 ≤ q ∧ q ≤ 120) (h1 : 9000 * p ≤ k) (h2 : k < 9000 * p + 9000) : ak_WR u p hc hm hc' (am_up hm'.1 q k v, hm'.2) := by
  obtain ⟨w1, w2, w3, w4, w5, w6, w7, w8⟩ := w
  have e1 : am_up hm'.1 q k v 110 37 = hm'.1 110 37 := ak_up_out (by omega)
  have e2 : am_up hm'.1 q k v 121 p = hm'.1 121 p := ak_up_out (by omega)
  refine ⟨?_, ?_, w3, ak_pM_upI w4 (Or.inr (Or.inl ⟨hq.1, hq.2, h1, h2⟩)), ?_, ?_, w7, w8⟩
  · show 0 ≤ am_up hm'.1 q k v 110 37
    rw [e1]; exact w1
  · show am_up hm'.1 q k v 110 37 = _
    rw [e1]; exact w2
  · show 0 ≤ am_up hm'.1 q k v 121 p
    rw [e2]; exact w5
  · show am_up hm'.1 q k v 121 p + _ ≤ _
    rw [e2]; exact w6
/-! a next written -/
theorem ak_fut_nx {x v : Int} {k : Nat} {C M C0 M0 : Nat → Nat → Int} (w : ak_fut u p za zb x C0 (am_up M0 119 k v) C M) (h : k < 9000 * p + za 2 ∨ 9000 * p + zb 2 ≤ k) : ak_fut u p za zb x C0 M0 C M := by
  obtain ⟨⟨a1, a2, a3, a4, a5⟩, w2, w3⟩ := w
  refine ⟨⟨a1, a2, a3, fun j h1 h2 => ?_, fun q j h1 h2 h3 h4 h5 => (a5 q j h1 h2 h3 h4 h5).trans (ak_up_out (by omega))⟩, w2, w3⟩
  obtain ⟨x1, x2, x3, x4, x5⟩ := a4 j h1 h2
  exact ⟨x1, x2, x3, x4.trans (ak_up_out (by omega)), x5.trans (ak_up_out (by omega))⟩
theorem ak_fut_sub {x : Int} {C M C0 M0 : Nat → Nat → Int} (w : ak_fut u p za zb x C0 M0 C M) (h1 : za 1 ≤ z1 1 ∧ za 2 ≤ z1 2 ∧ za 3 ≤ z1 3 ∧ za 4 ≤ z1 4 ∧ za 5 ≤ z1 5) : ak_fut u p z1 zb x C0 M0 C M := by
  obtain ⟨w1, w2, w3⟩ := w
  refine ⟨ak_agr_sub w1 h1 ⟨Nat.le_refl _, Nat.le_refl _, Nat.le_refl _, Nat.le_refl _, Nat.le_refl _⟩ (Or.inl rfl), w2, fun j g1 g2 => ?_⟩
  have h3 := w3 j g1 g2
  omega
theorem ak_fut_fst_nx {x v : Int} {l : Nat} {C M : Nat → Nat → Int} (w : ak_fut u p z z2 x hc2.1 (am_up hm2.1 119 l v) C M) (e1 : ak_ext u p z z1 hc hm hc' hm') (e2 : ak_ext u p z1 z2 hc' hm' hc2 hm2) (hx : ((9000 * p + z1 2 : Nat) : Int) ≤ x) : ak_fut u p z z1 (l : Int) hc'.1 hm'.1 C M := by
  obtain ⟨⟨a1, a2, a3, a4, a5⟩, w2, w3⟩ := w
  have f0 : ak_fut u p z z2 x hc2.1 hm2.1 C (am_up M 119 l (hm2.1 119 l)) := by
    refine ⟨⟨a1, a2, a3, fun j h1 h2 => ?_, fun q j h1 h2 h3 h4 h5 => ?_⟩, ⟨w2.1, by rw [ak_up_out (by omega)]; exact w2.2⟩, w3⟩
    · obtain ⟨x1, x2, x3, x4, x5⟩ := a4 j h1 h2
      exact ⟨x1, x2, x3, (ak_up_out (by omega)).trans (x4.trans (ak_up_out (by omega))), (ak_up_out (by omega)).trans (x5.trans (ak_up_out (by omega)))⟩
    · by_cases g : q = 119 ∧ j = l
      · obtain ⟨rfl, rfl⟩ := g
        exact ak_up_at
      · exact (ak_up_out g).trans ((a5 q j h1 h2 h3 h4 h5).trans (ak_up_out g))
  obtain ⟨⟨b1, b2, b3, b4, b5⟩, v2, v3⟩ := ak_fut_fst (y := (l : Int)) f0 e1 e2 (Or.inr (Or.inl hx))
  refine ⟨⟨b1, b2, b3, fun j h1 h2 => ?_, fun q j h1 h2 h3 h4 h5 => (ak_up_out (f := M) (p := 119) (k := l) (q := q) (j := j) (v := hm2.1 119 l) (fun g => h5 ⟨g.1, by omega⟩)).symm.trans (b5 q j h1 h2 h3 h4 h5)⟩, ⟨v2.1, by have := v2.2; rw [ak_up_out (by omega)] at this; exact this⟩, v3⟩
  obtain ⟨x1, x2, x3, x4, x5⟩ := b4 j h1 h2
  exact ⟨x1, x2, x3, (ak_up_out (f := M) (p := 119) (k := l) (q := 135) (v := hm2.1 119 l) (by omega)).symm.trans x4, (ak_up_out (f := M) (p := 119) (k := l) (q := 136) (v := hm2.1 119 l) (by omega)).symm.trans x5⟩
/-- a list: k of its members are read; from x1 to x2; L says what it is, J the nodes that it takes -/
abbrev ak_Pd : Type := (Nat → Nat → Int) → (Nat → Nat → Int) → Nat → Int → Nat → Nat → Nat → Prop
def ak_LS (u p : Nat) (Pd : ak_Pd) (z z1 : Nat → Nat) (hc1 hm1 : ak_S) (k : Nat) (x1 x2 : Int) : Prop :=
  (x1 = -1 ∧ x2 = -1 ∧ z1 1 = z 1 ∧ k = 0) ∨ ∃ l : Nat, x2 = ((9000 * p + l : Nat) : Int) ∧ z 2 ≤ l ∧ l < z1 2 ∧ 0 ≤ x1 ∧ hm1.1 119 (9000 * p + l) = -1 ∧
    ∀ C M, ak_fut u p z z1 x2 hc1.1 hm1.1 C M → ∀ j J J' c, J + (z1 2 - z 2) ≤ J' → Pd C M J (M 119 (9000 * p + l)) j (z1 1) c → Pd C M J' x1 (k + j) (z 1) c
theorem ak_LS_end {Pd : ak_Pd} {k : Nat} {x1 x2 : Int} (L : ak_LS u p Pd z z1 hc1 hm1 k x1 x2) (base : ∀ (C M : Nat → Nat → Int) (J c : Nat), Pd C M J (-1) 0 c c) {C M : Nat → Nat → Int} (ft : ak_fut u p z z1 (-1) hc1.1 hm1.1 C M) : Pd C M (z1 2 - z 2) x1 k (z 1) (z1 1) := by
  rcases L with ⟨rfl, rfl, e1, rfl⟩ | ⟨l, e2, g1, g2, g3, g4, T⟩
  · rw [e1]; exact base C M _ _
  · obtain ⟨w1, w2, w3⟩ := ft
    have e5 : M 119 (9000 * p + l) = -1 := (w1.2.2.2.2 119 _ (by decide) (by decide) (by omega) (by omega) (by omega)).trans g4
    have key := T C M ⟨ak_agr_sub w1 ⟨Nat.le_refl _, Nat.le_refl _, Nat.le_refl _, Nat.le_refl _, Nat.le_refl _⟩ ⟨Nat.le_refl _, Nat.le_refl _, Nat.le_refl _, Nat.le_refl _, Nat.le_refl _⟩ (Or.inr (Or.inl (by omega))), w2, w3⟩ 0 0 (z1 2 - z 2) (z1 1) (by omega) (by rw [e5]; exact base C M _ _)
    exact key
theorem ak_LS_fr {Pd : ak_Pd} {k : Nat} {x1 x2 : Int} (L : ak_LS u p Pd z z1 hc1 hm1 k x1 x2) (e1 : ak_ext u p z z1 hc hm hc1 hm1) (e2 : ak_ext u p z1 z2 hc1 hm1 hc2 hm2) (h1 : z2 1 = z1 1) : ak_LS u p Pd z z2 hc2 hm2 k x1 x2 := by
  have l2 := ak_ext_le e2
  rcases L with ⟨q1, q2, q3, q4⟩ | ⟨l, g0, g1, g2, g3, g4, T⟩
  · exact Or.inl ⟨q1, q2, h1.trans q3, q4⟩
  · refine Or.inr ⟨l, g0, g1, by omega, g3, (e2.2.1.2.2.2.2 119 _ (by decide) (by decide) (by unfold ak_z0; omega) (by omega) (by omega)).trans g4, fun C M ft j J J' c hJ t3 => ?_⟩
    rw [h1] at t3
    exact T C M (ak_fut_fst ft e1 e2 (Or.inl rfl)) j J J' c (by omega) t3
/-- one more: the first, a later -/
theorem ak_LS_add0 {Pd : ak_Pd} {k dk y : Nat} {x2 : Int} (L : ak_LS u p Pd z z1 hc1 hm1 k (-1) x2) (e1 : ak_ext u p z z1 hc hm hc1 hm1) (e2 : ak_ext u p z1 z2 hc1 hm1 hc2 hm2) (y1 : z1 2 ≤ y) (y2 : y < z2 2) (y3 : hm2.1 119 (9000 * p + y) = -1)
    (el : ∀ C M, ak_fut u p z1 z2 ((9000 * p + y : Nat) : Int) hc2.1 hm2.1 C M → ∀ j J J' c, J + (z2 2 - z1 2) ≤ J' → Pd C M J (M 119 (9000 * p + y)) j (z2 1) c → Pd C M J' ((9000 * p + y : Nat) : Int) (dk + j) (z1 1) c) :
    ak_LS u p Pd z z2 hc2 hm2 (k + dk) ((9000 * p + y : Nat) : Int) ((9000 * p + y : Nat) : Int) := by
  have l1 := ak_ext_le e1
  rcases L with ⟨q1, q2, q3, q4⟩ | ⟨l, g0, g1, g2, g3, g4, T⟩
  · refine Or.inr ⟨y, rfl, by omega, y2, by omega, y3, fun C M ft j J J' c hJ t3 => ?_⟩
    have key := el C M (ak_fut_sub ft (by omega)) j J J' c (by omega) t3
    rw [← q3, q4, Nat.zero_add]
    exact key
  · exact absurd g3 (by decide)
theorem ak_LS_add1 {Pd : ak_Pd} {k dk y l : Nat} {x1 : Int} (L : ak_LS u p Pd z z1 hc1 hm1 k x1 ((9000 * p + l : Nat) : Int)) (e1 : ak_ext u p z z1 hc hm hc1 hm1) (e2 : ak_ext u p z1 z2 hc1 hm1 hc2 hm2) (hl : l < z1 2) (y1 : z1 2 ≤ y) (y2 : y < z2 2) (y3 : hm2.1 119 (9000 * p + y) = -1)
    (el : ∀ C M, ak_fut u p z1 z2 ((9000 * p + y : Nat) : Int) hc2.1 hm2.1 C M → ∀ j J J' c, J + (z2 2 - z1 2) ≤ J' → Pd C M J (M 119 (9000 * p + y)) j (z2 1) c → Pd C M J' ((9000 * p + y : Nat) : Int) (dk + j) (z1 1) c) :
    ak_LS u p Pd z z2 hc2 (am_up hm2.1 119 (9000 * p + l) ((9000 * p + y : Nat) : Int), hm2.2) (k + dk) x1 ((9000 * p + y : Nat) : Int) := by
  have l1 := ak_ext_le e1
  have l2 := ak_ext_le e2
  rcases L with ⟨q1, q2, q3, q4⟩ | ⟨l', g0, g1, g2, g3, g4, T⟩
  · omega
  · have el' : l' = l := by omega
    subst el'
    refine Or.inr ⟨y, rfl, by omega, y2, g3, (ak_up_out (f := hm2.1) (p := 119) (k := 9000 * p + l') (q := 119) (j := 9000 * p + y) (v := ((9000 * p + y : Nat) : Int)) (by omega)).trans y3, fun C M ft j J J' c hJ t3 => ?_⟩
    have key := el C M (ak_fut_nx (ak_fut_sub ft (by omega)) (Or.inl (by omega))) j J (J + (z2 2 - z1 2)) c (Nat.le_refl _) t3
    have e5 : M 119 (9000 * p + l') = ((9000 * p + y : Nat) : Int) := (ft.1.2.2.2.2 119 _ (by decide) (by decide) (by omega) (by omega) (by omega)).trans (ak_up_at (f := hm2.1) (q := 119) (k := 9000 * p + l') (v := ((9000 * p + y : Nat) : Int)))
    have key2 := T C M (ak_fut_fst_nx ft e1 e2 (by omega)) (dk + j) (J + (z2 2 - z1 2)) J' c (by omega) (by rw [e5]; exact key)
    rw [Nat.add_assoc]
    exact key2
end LIST
