/-! two expressions and a sign -/
section LKBIN
variable {e : ak_X3} {d u p : Nat} {b : Nat → Int} {n m lv o Mt : Nat} {D : Nat → Nat} {z z1 z2 z3 : Nat → Nat} {hc hm hc1 hm1 hc2 hm2 hc3 hm3 : ak_S} {ρ : List Nat}
theorem ak_hx_224 : ak_hx 225 o + 1 ≤ ak_hx 224 o := by
  have e1 : ak_hx 225 o = 7 * (20 - o) + 5 := rfl
  have e2 : ak_hx 224 o = 7 * (20 - o) + 6 := rfl
  omega
theorem ak_hx_225 : ak_hx 226 o + 1 ≤ ak_hx 225 o := by
  have e1 : ak_hx 225 o = 7 * (20 - o) + 5 := rfl
  have e2 : ak_hx 226 o = 7 * (20 - o) + 4 := rfl
  omega
theorem ak_hx_222 : ak_hx 224 o + 1 ≤ ak_hx 222 o := by
  have e1 : ak_hx 222 o = 7 * (20 - o) + 7 := rfl
  have e2 : ak_hx 224 o = 7 * (20 - o) + 6 := rfl
  omega
theorem ak_XP_up {g g2 : Nat} {x : Int} (hg : ak_hx g2 o ≤ ak_hx g o) (P : ak_XP g2 u p b n m lv D o Mt z hc hm z1 x hc1 hm1) : ak_XP g u p b n m lv D o Mt z hc hm z1 x hc1 hm1 := by
  obtain ⟨I1, l1, r1, e1, T1⟩ := P
  exact ⟨I1, l1, r1, e1, fun C M ft k i hk hi => T1 C M ft k i (Nat.le_trans hg hk) hi⟩
theorem ak_POT_REL {f g : Nat} (t : ak_POT b n o f z) (r : ak_REL b n g z z1) : ak_POT b n o f z1 := by
  unfold ak_POT at t ⊢
  unfold ak_REL at r
  omega
theorem ak_POT_step {f : Nat} (c : ak_cc b n m hc (z 0)) (h : z 0 < m) (t : ak_POT b n o f z) : ak_POT b n o f (ak_zu z 0 (z 0 + 1)) := by
  have h2 := ak_st_up c h
  unfold ak_POT at t ⊢
  show 2 * z 1 ≤ 3 * ak_st b n (z 0 + 1) + z 5 + 10 * o + 3 * f ∧ z 2 ≤ ak_st b n (z 0 + 1) + 2 * o + f ∧ 13 * z 3 ≤ ak_st b n (z 0 + 1) + 13 * o ∧ 6 * z 4 ≤ ak_st b n (z 0 + 1)
  omega
/-- the node's cells, written -/
def ak_two (h : ak_S) (y : Nat) (a c o : Int) : ak_S := (am_up (am_up (am_up h.1 115 y a) 116 y c) 117 y o, h.2)
theorem lk_bin {g g2 : Nat} (hu : u = 0 ∨ u = 1) (hg : ak_hx g2 o + 1 ≤ ak_hx g o) {x1 x3 op r : Int} (t : ak_POT b n o 2 z) (P1 : ak_XP g u p b n m lv D o Mt z hc hm z1 x1 hc1 hm1) (ham : z1 0 < m) (C : ak_cc b n m hc2 (z1 0 + 1)) (fr : ak_afr hc1 hc2) (M : ak_cm b n p hm2 (z1 0 + 1)) (fr' : ak_rfr hm1 hm2)
    (P3 : ak_XP g2 u p b n m lv D o Mt (ak_zu z1 0 (z1 0 + 1)) hc2 hm2 z3 x3 hc3 hm3) (ho : ak_opr op r) :
    ak_XP g u p b n m lv D o Mt z hc hm (ak_zu (ak_zu z3 1 (z3 1 + 1)) 2 (z3 2 + 1)) ((9000 * p + z3 2 : Nat) : Int) (ak_put hc3 u (z3 1) r 0) (ak_two (ak_node hm3 p (z3 2) 11 0) (9000 * p + z3 2) x1 x3 op) := by
  obtain ⟨I1, l1, r1, e1, T1⟩ := P1
  obtain ⟨I3, l3, r3, e3, T3⟩ := P3
  have t1 := ak_POT_REL t r1
  have t2 := ak_POT_step I1.1 ham t1
  have t3 := ak_POT_REL t2 r3
  have rm := ak_room I3 (by decide) t3
  have es := ak_ext_step (p := p) (z := z1) hu fr fr'
  have ez3 := ak_ext_trans (ak_ext_trans e1 es) e3
  have hst := ak_st_up I1.1 ham
  have l3' : z1 0 + 1 < z3 0 := l3
  have kb : 9000 * p + z3 2 < 9000 * p + 9000 := by omega
  have wn : ak_PI u p b n m lv D o Mt (ak_zu (ak_zu z3 1 (z3 1 + 1)) 2 (z3 2 + 1)) (ak_put hc3 u (z3 1) r 0) (ak_two (ak_node hm3 p (z3 2) 11 0) (9000 * p + z3 2) x1 x3 op) :=
    ak_PI_cell hu (ak_PI_cell hu (ak_PI_cell hu (ak_PI_node hu (ak_PI_put hu I3 (r := r) (x := 0)) (k := 11) (r := 0)) (Or.inl (by decide))) (Or.inl (by decide))) (Or.inl (by decide))
  have en : ak_ext u p z3 (ak_zu (ak_zu z3 1 (z3 1 + 1)) 2 (z3 2 + 1)) hc3 hm3 (ak_put hc3 u (z3 1) r 0) (ak_two (ak_node hm3 p (z3 2) 11 0) (9000 * p + z3 2) x1 x3 op) :=
    ak_ext_cell (ak_ext_cell (ak_ext_cell (ak_ext_trans (ak_ext_put hu) (ak_ext_node (show z3 2 < 9000 by omega))) (by decide) (Nat.le_refl _) kb) (by decide) (Nat.le_refl _) kb) (by decide) (Nat.le_refl _) kb
  have e114 : (ak_two (ak_node hm3 p (z3 2) 11 0) (9000 * p + z3 2) x1 x3 op).1 114 (9000 * p + z3 2) = 11 := by simp [ak_two, ak_node, am_up]
  have e115 : (ak_two (ak_node hm3 p (z3 2) 11 0) (9000 * p + z3 2) x1 x3 op).1 115 (9000 * p + z3 2) = x1 := by simp [ak_two, am_up]
  have e116 : (ak_two (ak_node hm3 p (z3 2) 11 0) (9000 * p + z3 2) x1 x3 op).1 116 (9000 * p + z3 2) = x3 := by simp [ak_two, am_up]
  have e117 : (ak_two (ak_node hm3 p (z3 2) 11 0) (9000 * p + z3 2) x1 x3 op).1 117 (9000 * p + z3 2) = op := by simp [ak_two, am_up]
  have o1 : (ak_put hc3 u (z3 1) r 0).1 (ak_T u + 2) (z3 1) = r := by simp [ak_put, am_up]
  have lz3 := ak_ext_le ez3
  refine ⟨wn, ?_, ?_, ak_ext_trans ez3 en, fun C2 M2 ft => ?_⟩
  · show z 0 < z3 0
    omega
  · unfold ak_REL at r1 r3 ⊢
    have r3' : 2 * z3 1 + 1 + 3 * ak_st b n (z1 0 + 1) + z1 5 ≤ 2 * z1 1 + 3 * ak_st b n (z3 0) + z3 5 ∧ z3 2 + ak_st b n (z1 0 + 1) ≤ z1 2 + ak_st b n (z3 0) ∧ 13 * z3 3 + ak_st b n (z1 0 + 1) ≤ 13 * z1 3 + ak_st b n (z3 0) ∧ 6 * z3 4 + ak_st b n (z1 0 + 1) ≤ 6 * z1 4 + ak_st b n (z3 0) := r3
    show 2 * (z3 1 + 1) + 1 + 3 * ak_st b n (z 0) + z 5 ≤ 2 * z 1 + 3 * ak_st b n (z3 0) + z3 5 ∧ z3 2 + 1 + ak_st b n (z 0) ≤ z 2 + ak_st b n (z3 0) ∧ 13 * z3 3 + ak_st b n (z 0) ≤ 13 * z 3 + ak_st b n (z3 0) ∧ 6 * z3 4 + ak_st b n (z 0) ≤ 6 * z 4 + ak_st b n (z3 0)
    omega
  · have f1 := ak_fut_fst (y := -1) ft e1 (ak_ext_trans (ak_ext_trans es e3) en) (Or.inl rfl)
    have f3 := ak_fut_fst (y := -1) ft ez3 en (Or.inl rfl)
    have f2 := ak_fut_snd (y := -1) f3 (ak_ext_trans e1 es) e3 (Or.inl rfl)
    obtain ⟨⟨a1, a2, a3, a4, a5⟩, -, -⟩ := ft
    have b1 := a1 (z3 1) lz3.2.1 (Nat.lt_succ_self _)
    have c5 : ∀ q, 114 ≤ q → q ≤ 118 → M2 q (9000 * p + z3 2) = (ak_two (ak_node hm3 p (z3 2) 11 0) (9000 * p + z3 2) x1 x3 op).1 q (9000 * p + z3 2) := fun q q1 q2 => a5 q _ q1 (by omega) (by omega) (by show 9000 * p + z3 2 < 9000 * p + (z3 2 + 1); omega) (by omega)
    intro k i hk hi
    have hi' : z3 2 + 1 - z 2 ≤ i := hi
    have le1 := ak_ext_le e1
    have le3 := ak_ext_le e3
    have le3' : z1 2 ≤ z3 2 := le3.2.2.1
    have hx := ak_hx_pos (g := g) (o := o)
    refine ak_T3_fold ⟨_, rfl, ⟨by omega, by omega⟩, Or.inr (Or.inr (Or.inr (Or.inr (Or.inr (Or.inr (Or.inr (Or.inr (Or.inr (Or.inr (Or.inl ⟨(c5 114 (by decide) (by decide)).trans e114, z1 1, z3 1, z1 2 - z 2, z3 2 - z1 2, ak_hx g2 o, ⟨by omega, by omega, ?_⟩, ?_, ?_, rfl⟩))))))))))⟩
    · rw [(c5 115 (by decide) (by decide)).trans e115]
      exact T1 C2 M2 f1 k _ hk (Nat.le_refl _)
    · rw [(c5 116 (by decide) (by decide)).trans e116]
      exact T3 C2 M2 f2 _ _ (Nat.le_refl _) (Nat.le_refl _)
    · rw [(c5 117 (by decide) (by decide)).trans e117, b1.1.trans o1]
      exact ho
end LKBIN
