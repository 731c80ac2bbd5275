/-! reading in step: what holds between two tokens. z: token, orders, nodes, guards, ons, literals, names, sites -/
def ak_PI (u p : Nat) (b : Nat → Int) (n m lv : Nat) (D : Nat → Nat) (o Mt : Nat) (z : Nat → Nat) (hc hm : ak_S) : Prop :=
  ak_cc b n m hc (z 0) ∧ ak_cm b n p hm (z 0) ∧ hm.1 110 37 < 0 ∧ (hm.1 110 38 = (o : Int) ∧ o ≤ 20) ∧ ak_scs b n hc hm lv D ∧ ak_nms b n u p hc hm (z 6) ∧ ak_sts u p hc hm (z 7) (z 6) ∧ ak_mths b n u p hc hm Mt ∧
  hc.1 (ak_T u + 1) 2 = (z 1 : Int) ∧ hm.1 121 p = (z 2 : Int) ∧ hc.1 (ak_T u + 1) 6 = (z 3 : Int) ∧ hc.1 (ak_T u + 1) 11 = (z 4 : Int) ∧ hc.1 (ak_T u) 14 = (z 5 : Int) ∧ hm.1 134 p = (z 5 : Int) ∧ z 5 ≤ 60 ∧ hc.1 2 6 = ((Mt - 1 : Nat) : Int) ∧ lv ≤ o
def ak_POT (b : Nat → Int) (n o f : Nat) (z : Nat → Nat) : Prop := 2 * z 1 ≤ 3 * ak_st b n (z 0) + z 5 + 10 * o + 3 * f ∧ z 2 ≤ ak_st b n (z 0) + 2 * o + f ∧ 13 * z 3 ≤ ak_st b n (z 0) + 13 * o ∧ 6 * z 4 ≤ ak_st b n (z 0)
def ak_REL (b : Nat → Int) (n g : Nat) (z z' : Nat → Nat) : Prop := 2 * z' 1 + g + 3 * ak_st b n (z 0) + z 5 ≤ 2 * z 1 + 3 * ak_st b n (z' 0) + z' 5 ∧ z' 2 + ak_st b n (z 0) ≤ z 2 + ak_st b n (z' 0) ∧ 13 * z' 3 + ak_st b n (z 0) ≤ 13 * z 3 + ak_st b n (z' 0) ∧ 6 * z' 4 + ak_st b n (z 0) ≤ 6 * z 4 + ak_st b n (z' 0)
/-- alike on what was made from za on to zb; x: the node whose next is left out -/
def ak_agr (u p : Nat) (za zb : Nat → Nat) (x : Int) (C M C' M' : Nat → Nat → Int) : Prop :=
  (∀ k, za 1 ≤ k → k < zb 1 → C' (ak_T u + 2) k = C (ak_T u + 2) k ∧ C' (ak_T u + 3) k = C (ak_T u + 3) k) ∧
  (∀ k, za 3 ≤ k → k < zb 3 → C' (ak_T u + 4) k = C (ak_T u + 4) k ∧ C' (ak_T u + 5) k = C (ak_T u + 5) k ∧ C' (ak_T u + 6) k = C (ak_T u + 6) k) ∧
  (∀ k, za 4 ≤ k → k < zb 4 → C' (ak_T u + 7) k = C (ak_T u + 7) k ∧ C' (ak_T u + 8) k = C (ak_T u + 8) k ∧ C' (ak_T u + 9) k = C (ak_T u + 9) k ∧ C' (ak_T u + 10) k = C (ak_T u + 10) k) ∧
  (∀ k, za 5 ≤ k → k < zb 5 → C' (ak_T u + 18) k = C (ak_T u + 18) k ∧ C' (ak_T u + 19) k = C (ak_T u + 19) k ∧ C' (ak_T u + 20) k = C (ak_T u + 20) k ∧ M' 135 (60 * p + k) = M 135 (60 * p + k) ∧ M' 136 (60 * p + k) = M 136 (60 * p + k)) ∧
  (∀ q k, 114 ≤ q → q ≤ 120 → 9000 * p + za 2 ≤ k → k < 9000 * p + zb 2 → ¬ (q = 119 ∧ (k : Int) = x) → M' q k = M q k)
/-- what comes later: alike, and later ons belong to other guards -/
def ak_fut (u p : Nat) (za zb : Nat → Nat) (x : Int) (C M C' M' : Nat → Nat → Int) : Prop :=
  ak_agr u p za zb x C M C' M' ∧ ((zb 4 : Int) ≤ C' (ak_T u + 1) 11 ∧ (zb 7 : Int) ≤ M' 127 p) ∧ ∀ j : Nat, zb 4 ≤ j → (j : Int) < C' (ak_T u + 1) 11 → ¬ ((za 3 : Int) ≤ C' (ak_T u + 10) j ∧ C' (ak_T u + 10) j < (zb 3 : Int))
def ak_z0 : Nat → Nat := fun _ => 0
def ak_ext (u p : Nat) (z z' : Nat → Nat) (hc hm hc' hm' : ak_S) : Prop :=
  (∀ i, i ≤ 7 → z i ≤ z' i) ∧ ak_agr u p ak_z0 z (-1) hc.1 hm.1 hc'.1 hm'.1 ∧ (∀ j, z 4 ≤ j → j < z' 4 → (z 3 : Int) ≤ hc'.1 (ak_T u + 10) j ∧ hc'.1 (ak_T u + 10) j < (z' 3 : Int)) ∧ ak_pC u hc hc' ∧ ak_pM p hm hm' ∧
  hc'.1 2 6 = hc.1 2 6 ∧ (∀ k, hc'.1 (ak_T u + 12) k = hc.1 (ak_T u + 12) k ∧ hc'.1 (ak_T u + 13) k = hc.1 (ak_T u + 13) k) ∧ (∀ q k, 125 ≤ q → q ≤ 126 → hm'.1 q k = hm.1 q k) ∧ hc'.2.2 = hc.2.2 ∧ hm'.2.2 = hm.2.2
def ak_WR (u p : Nat) (hc hm hc' hm' : ak_S) : Prop := 0 ≤ hm'.1 110 37 ∧ hm'.1 110 37 = hc'.1 3 9 ∧ ak_pC u hc hc' ∧ ak_pM p hm hm' ∧ 0 ≤ hm'.1 121 p ∧ hm'.1 121 p + 3 * hm.1 110 38 ≤ 6198 ∧ hc'.2.2 = (ak_th hc).2.2 ∧ hm'.2.2 = hm.2.2
/-- the same for a statement: it may make some nodes more -/
def ak_WRs (u p : Nat) (hc hm hc' hm' : ak_S) : Prop := 0 ≤ hm'.1 110 37 ∧ hm'.1 110 37 = hc'.1 3 9 ∧ ak_pC u hc hc' ∧ ak_pM p hm hm' ∧ 0 ≤ hm'.1 121 p ∧ hm'.1 121 p + 3 * hm.1 110 38 ≤ 6200 ∧ hc'.2.2 = (ak_th hc).2.2 ∧ hm'.2.2 = hm.2.2
theorem ak_WR_s {u p : Nat} {hc hm hc' hm' : ak_S} (w : ak_WR u p hc hm hc' hm') : ak_WRs u p hc hm hc' hm' := by
  obtain ⟨w1, w2, w3, w4, w5, w6, w7, w8⟩ := w
  exact ⟨w1, w2, w3, w4, w5, by omega, w7, w8⟩
def ak_goI (e : ak_X3) (d : Nat) (ρ : List Nat) (j : Nat) (ar : List am_V) (h : ak_S) (v : Int) (h' : ak_S) : Prop := ∀ (Q : Int → ak_S → Prop) (X : Nat → ak_S → Prop), Q v h' → ak_MI e 1 d ρ j ar h Q X
def ak_goV (e : ak_X3) (d : Nat) (ρ : List Nat) (j : Nat) (ar : List am_V) (h h' : ak_S) : Prop := ∀ (Q : ak_S → Prop) (X : Nat → ak_S → Prop), Q h' → ak_MV e 1 d ρ j ar h Q X
section PIL
variable {u p : Nat} {z z1 z2 za zb : Nat → Nat} {x : Int} {hc hm hc' hm' hc2 hm2 : ak_S} {C M C' M' C2 M2 : Nat → Nat → Int}
theorem ak_agr_refl : ak_agr u p za zb x C M C M := ⟨fun _ _ _ => ⟨rfl, rfl⟩, fun _ _ _ => ⟨rfl, rfl, rfl⟩, fun _ _ _ => ⟨rfl, rfl, rfl, rfl⟩, fun _ _ _ => ⟨rfl, rfl, rfl, rfl, rfl⟩, fun _ _ _ _ _ _ _ => rfl⟩
theorem ak_agr_trans (w : ak_agr u p za zb x C M C' M') (w2 : ak_agr u p za zb x C' M' C2 M2) : ak_agr u p za zb x C M C2 M2 := by
  obtain ⟨a1, a2, a3, a4, a5⟩ := w
  obtain ⟨b1, b2, b3, b4, b5⟩ := w2
  refine ⟨fun k h1 h2 => ?_, fun k h1 h2 => ?_, fun k h1 h2 => ?_, fun k h1 h2 => ?_, fun q k h1 h2 h3 h4 h5 => (b5 q k h1 h2 h3 h4 h5).trans (a5 q k h1 h2 h3 h4 h5)⟩
  · exact ⟨(b1 k h1 h2).1.trans (a1 k h1 h2).1, (b1 k h1 h2).2.trans (a1 k h1 h2).2⟩
  · obtain ⟨x1, x2, x3⟩ := a2 k h1 h2
    obtain ⟨y1, y2, y3⟩ := b2 k h1 h2
    exact ⟨y1.trans x1, y2.trans x2, y3.trans x3⟩
  · obtain ⟨x1, x2, x3, x4⟩ := a3 k h1 h2
    obtain ⟨y1, y2, y3, y4⟩ := b3 k h1 h2
    exact ⟨y1.trans x1, y2.trans x2, y3.trans x3, y4.trans x4⟩
  · obtain ⟨x1, x2, x3, x4, x5⟩ := a4 k h1 h2
    obtain ⟨y1, y2, y3, y4, y5⟩ := b4 k h1 h2
    exact ⟨y1.trans x1, y2.trans x2, y3.trans x3, y4.trans x4, y5.trans x5⟩
/-- a part of what is alike -/
theorem ak_agr_sub {y : Int} (w : ak_agr u p za zb x C M C' M') (h1 : za 1 ≤ z1 1 ∧ za 2 ≤ z1 2 ∧ za 3 ≤ z1 3 ∧ za 4 ≤ z1 4 ∧ za 5 ≤ z1 5) (h2 : z2 1 ≤ zb 1 ∧ z2 2 ≤ zb 2 ∧ z2 3 ≤ zb 3 ∧ z2 4 ≤ zb 4 ∧ z2 5 ≤ zb 5)
    (hx : x = y ∨ x < ((9000 * p + z1 2 : Nat) : Int) ∨ ((9000 * p + z2 2 : Nat) : Int) ≤ x) : ak_agr u p z1 z2 y C M C' M' := by
  obtain ⟨a1, a2, a3, a4, a5⟩ := w
  obtain ⟨g1, g2, g3, g4, g5⟩ := h1
  obtain ⟨f1, f2, f3, f4, f5⟩ := h2
  refine ⟨fun k q1 q2 => a1 k (by omega) (by omega), fun k q1 q2 => a2 k (by omega) (by omega), fun k q1 q2 => a3 k (by omega) (by omega), fun k q1 q2 => a4 k (by omega) (by omega), fun q k q1 q2 q3 q4 q5 => a5 q k q1 q2 (by omega) (by omega) (fun g => q5 ⟨g.1, by omega⟩)⟩
theorem ak_ext_refl : ak_ext u p z z hc hm hc hm := ⟨fun _ _ => Nat.le_refl _, ak_agr_refl, fun j h1 h2 => absurd h2 (by omega), ak_pC_refl, ak_pM_refl, rfl, fun _ => ⟨rfl, rfl⟩, fun _ _ _ _ => rfl, rfl, rfl⟩
theorem ak_ext_le (w : ak_ext u p z z1 hc hm hc' hm') : z 0 ≤ z1 0 ∧ z 1 ≤ z1 1 ∧ z 2 ≤ z1 2 ∧ z 3 ≤ z1 3 ∧ z 4 ≤ z1 4 ∧ z 5 ≤ z1 5 ∧ z 6 ≤ z1 6 ∧ z 7 ≤ z1 7 :=
  ⟨w.1 0 (by decide), w.1 1 (by decide), w.1 2 (by decide), w.1 3 (by decide), w.1 4 (by decide), w.1 5 (by decide), w.1 6 (by decide), w.1 7 (by decide)⟩
theorem ak_ext_trans (w : ak_ext u p z z1 hc hm hc' hm') (w2 : ak_ext u p z1 z2 hc' hm' hc2 hm2) : ak_ext u p z z2 hc hm hc2 hm2 := by
  have l1 := ak_ext_le w
  have l2 := ak_ext_le w2
  obtain ⟨e1, e2, e3, e4, e5, e6, e7, e8, e9, e10⟩ := w
  obtain ⟨f1, f2, f3, f4, f5, f6, f7, f8, f9, f10⟩ := w2
  refine ⟨fun i hi => Nat.le_trans (e1 i hi) (f1 i hi), ak_agr_trans e2 (ak_agr_sub f2 ⟨Nat.le_refl _, Nat.le_refl _, Nat.le_refl _, Nat.le_refl _, Nat.le_refl _⟩ (by omega) (Or.inl rfl)), fun j h1 h2 => ?_, ak_pC_trans e4 f4, ak_pM_trans e5 f5, f6.trans e6, fun k => ⟨(f7 k).1.trans (e7 k).1, (f7 k).2.trans (e7 k).2⟩, fun q k h1 h2 => (f8 q k h1 h2).trans (e8 q k h1 h2), f9.trans e9, f10.trans e10⟩
  rcases Nat.lt_or_ge j (z1 4) with g | g
  · have h3 := e3 j h1 g
    rw [(f2.2.2.1 j (Nat.zero_le _) g).2.2.2]
    omega
  · have h3 := f3 j g h2
    omega
/-- the later, seen from a part made first; from a part made last -/
theorem ak_fut_fst {y : Int} (w : ak_fut u p z z2 x hc2.1 hm2.1 C M) (e1 : ak_ext u p z z1 hc hm hc' hm') (e2 : ak_ext u p z1 z2 hc' hm' hc2 hm2) (hx : x = y ∨ ((9000 * p + z1 2 : Nat) : Int) ≤ x ∨ x < 0) : ak_fut u p z z1 y hc'.1 hm'.1 C M := by
  have l1 := ak_ext_le e1
  have l2 := ak_ext_le e2
  obtain ⟨w1, w2, w3⟩ := w
  have ag : ak_agr u p z z1 y hc2.1 hm2.1 C M := ak_agr_sub w1 (by omega) (by omega) (by omega)
  have ag2 : ak_agr u p z z1 y hc'.1 hm'.1 hc2.1 hm2.1 := ak_agr_sub e2.2.1 (by unfold ak_z0; omega) (by omega) (by omega)
  refine ⟨ak_agr_trans ag2 ag, by omega, fun j h1 h2 => ?_⟩
  rcases Nat.lt_or_ge j (z2 4) with g | g
  · have h3 := e2.2.2.1 j h1 g
    rw [(w1.2.2.1 j (by omega) g).2.2.2]
    omega
  · have h3 := w3 j g h2
    omega
theorem ak_fut_snd {y : Int} (w : ak_fut u p z z2 x hc2.1 hm2.1 C M) (e1 : ak_ext u p z z1 hc hm hc' hm') (e2 : ak_ext u p z1 z2 hc' hm' hc2 hm2) (hx : x = y ∨ x < ((9000 * p + z1 2 : Nat) : Int)) : ak_fut u p z1 z2 y hc2.1 hm2.1 C M := by
  have l1 := ak_ext_le e1
  have l2 := ak_ext_le e2
  obtain ⟨w1, w2, w3⟩ := w
  refine ⟨ak_agr_sub w1 (by omega) (by omega) (by omega), w2, fun j h1 h2 => ?_⟩
  have h3 := w3 j h1 h2
  omega
end PIL
