/-! what stands in parentheses; a primary -/
section LKPR
variable {e : ak_X3} {d dd u p : Nat} {b : Nat → Int} {n m lv o Mt : Nat} {D : Nat → Nat} {z z1 za zb z' : Nat → Nat} {hc hm hc1 hm1 hc' hm' hcP : ak_S} {ρ : List Nat} {x : Int} {C M C0 M0 C1 M1 : Nat → Nat → Int}
theorem lk_inner {ρ0 ρ3 ρ4 t : Nat} (hd : 20 * (20 - o) + 6 ≤ dd) (hu : u = 0 ∨ u = 1) (hE : ∀ t', t' < t → ak_EX e u p b n m ρ0 ρ3 ρ4 ρ 34 222 13 13 t') (w : ak_PI u p b n m lv D o Mt z hc hm) (pt : ak_POT b n o 2 z) (ht : m ≤ z 0 + t) :
    ak_MV e 0 (dd + 1) [ρ0, ak_T u, ak_T u + 1, ρ3, ρ4] 45 [am_r 2, am_i (o : Int)] hc
      (fun hc' => o < 20 ∧ ∃ (z2 : Nat → Nat) (x : Int) (hc2 hm1 hm2 : ak_S), ak_goV e (dd + 1) ρ 210 [am_r 110, am_i 40] hm hm1 ∧ ak_goI e (dd + 1) ρ 222 [am_r 110] hm1 x hm2 ∧ ak_PI u p b n m lv D (o + 1) Mt z2 hc2 hm2 ∧ z 0 < z2 0 ∧
        (2 * z2 1 + 4 + 3 * ak_st b n (z 0) + z 5 ≤ 2 * z 1 + 3 * ak_st b n (z2 0) + z2 5 ∧ z2 2 + 1 + ak_st b n (z 0) ≤ z 2 + ak_st b n (z2 0) ∧ 13 * z2 3 + ak_st b n (z 0) ≤ 13 * z 3 + ak_st b n (z2 0) ∧ 6 * z2 4 + ak_st b n (z 0) ≤ 6 * z 4 + ak_st b n (z2 0)) ∧ ak_ext u p z z2 hc hm hc2 hm2 ∧
        (∀ C M, ak_fut u p z z2 (-1) hc2.1 hm2.1 C M → ak_X0 C M (ak_T u) p (ak_hx 222 (o + 1)) (z2 2 - z 2) x (ak_lt Mt lv) (z 1) (z2 1)) ∧ ak_kd b n (ak_st b n (z2 0)) = 41 ∧ ak_cc b n m hc' (z2 0 + 1) ∧ ak_afr hc2 hc')
      (fun ex hc' => ex = 0 ∧ ((∃ hmx, ak_WR u p hc hm hc' hmx ∧ ak_goV e (dd + 1) ρ 210 [am_r 110, am_i 40] hm hmx) ∨
        (∃ (x : Int) (hm1 hmx : ak_S), ak_goV e (dd + 1) ρ 210 [am_r 110, am_i 40] hm hm1 ∧ ak_goI e (dd + 1) ρ 222 [am_r 110] hm1 x hmx ∧ ak_WR u p hc hm hc' hmx) ∨
        (∃ (z2 : Nat → Nat) (x : Int) (hc2 hm1 hm2 : ak_S), ak_goV e (dd + 1) ρ 210 [am_r 110, am_i 40] hm hm1 ∧ ak_goI e (dd + 1) ρ 222 [am_r 110] hm1 x hm2 ∧ ak_PI u p b n m lv D (o + 1) Mt z2 hc2 hm2 ∧ ak_POT b n (o + 1) 2 z2 ∧ ak_ext u p z z2 hc hm hc2 hm2 ∧ ak_kd b n (ak_st b n (z2 0)) ≠ 41 ∧ hc' = ak_th hc2))) := by
  obtain ⟨d0, rfl⟩ : ∃ d0, dd = d0 + 5 := ⟨dd - 5, by omega⟩
  refine ak_MV_of (Nat.le_of_ble_eq_true rfl) (am_k45_0 hu (lk_open (dm := d0 + 2) (f := 2) (ρ := ρ) (by decide) hu (by decide) w pt (fun hc1 hm1 hk ho I1 e1 su op => ?_) (fun no wr op => ⟨rfl, Or.inl ⟨_, wr, op⟩⟩)))
  have ham := ak_cc_lt w.1 (by rw [hk]; decide)
  rw [ak_wj (show o < 1000000 by omega)]
  have pt1 : ak_POT b n (o + 1) 2 (ak_zu z 0 (z 0 + 1)) := by
    unfold ak_POT at pt ⊢
    show 2 * z 1 ≤ 3 * ak_st b n (z 0 + 1) + z 5 + 10 * (o + 1) + 3 * 2 ∧ z 2 ≤ ak_st b n (z 0 + 1) + 2 * (o + 1) + 2 ∧ 13 * z 3 ≤ ak_st b n (z 0 + 1) + 13 * (o + 1) ∧ 6 * z 4 ≤ ak_st b n (z 0 + 1)
    omega
  have ed : d0 + 5 = (d0 + 5 - (20 * (20 - (o + 1)) + 13)) + 20 * (20 - (o + 1)) + 13 := by omega
  have key := hE (t - 1) (by omega) lv D (o + 1) Mt _ hc1 hm1 (d0 + 5 - (20 * (20 - (o + 1)) + 13)) I1 pt1 (show m ≤ z 0 + 1 + (t - 1) by omega)
  rw [← ed] at key
  refine ak_MV_imp key (fun hc3 R => ?_) (fun ex hcx R => ?_)
  · obtain ⟨z3, x, hm3, ⟨I3, l3, r3, e3, T3⟩, go3⟩ := R
    have l3' : z 0 + 1 < z3 0 := l3
    have pt3 := ak_POT_REL pt1 r3
    have r3' : 2 * z3 1 + 1 + 3 * ak_st b n (z 0 + 1) + z 5 ≤ 2 * z 1 + 3 * ak_st b n (z3 0) + z3 5 ∧ z3 2 + ak_st b n (z 0 + 1) ≤ z 2 + ak_st b n (z3 0) ∧ 13 * z3 3 + ak_st b n (z 0 + 1) ≤ 13 * z 3 + ak_st b n (z3 0) ∧ 6 * z3 4 + ak_st b n (z 0 + 1) ≤ 6 * z 4 + ak_st b n (z3 0) := r3
    refine am_s11 hu I3.1 (by decide) (fun k41 hc4 C4 fr4 => ?_) (fun no => ⟨rfl, Or.inr (Or.inr ⟨z3, x, hc3, hm1, hm3, op, ak_goI_up go3, I3, pt3, ak_ext_trans e1 e3, no, rfl⟩)⟩)
    refine ⟨ho, z3, x, hc3, hm1, hm3, op, ak_goI_up go3, I3, by omega, by omega, ak_ext_trans e1 e3, fun C M ft => T3 C M (ak_fut_sub ft (by
      have le1 := ak_ext_le e1
      exact ⟨le1.2.1, le1.2.2.1, le1.2.2.2.1, le1.2.2.2.2.1, le1.2.2.2.2.2.1⟩)), k41, C4, fr4⟩
  · obtain ⟨hx, x, hmx, wr, go⟩ := R
    exact ⟨hx, Or.inr (Or.inl ⟨x, hm1, hmx, op, ak_goI_up go, ak_WR_ext w I1 (Nat.le_succ _) e1 wr⟩)⟩
/-- a block literal: to be shown -/
def ak_LX (e : ak_X3) (u p : Nat) (b : Nat → Int) (n m ρ0 ρ3 ρ4 : Nat) (ρ : List Nat) (t : Nat) : Prop :=
  ∀ (lv : Nat) (D : Nat → Nat) (o Mt : Nat) (z : Nat → Nat) (hc hm : ak_S) (d : Nat), ak_PI u p b n m lv D o Mt z hc hm → ak_POT b n o 2 z → m ≤ z 0 + t → ak_kd b n (ak_st b n (z 0)) = 91 →
    ak_MV e 0 (d + 20 * (20 - o) + 7) [ρ0, ak_T u, ak_T u + 1, ρ3, ρ4] 47 [am_r 2, am_i (o : Int)] hc (ak_XQ e ρ (d + 20 * (20 - o) + 7) 229 u p b n m lv D o Mt z hc hm) (ak_XX e ρ (d + 20 * (20 - o) + 7) 229 u p hc hm)
def ak_three (h : ak_S) (y : Nat) (a o s : Int) : ak_S := (am_up (am_up (am_up h.1 116 y a) 117 y o) 118 y s, h.2)
/-- above, its message read -/
theorem lk_above (hu : u = 0 ∨ u = 1) {x s : Int} {kk : Nat} (I' : ak_PI u p b n m lv D o Mt z' hcP hm') (rm : z' 1 < 9200 ∧ z' 2 < 6060) (e0 : ak_ext u p z z1 hc hm hc1 hm1) (q1 : z1 1 = z 1 + 1) (e3 : ak_ext u p z1 z' hc1 hm1 hcP hm') (l : z 0 < z' 0)
    (r : 2 * z' 1 + 3 + 3 * ak_st b n (z 0) + z 5 ≤ 2 * z 1 + 3 * ak_st b n (z' 0) + z' 5 ∧ z' 2 + 1 + ak_st b n (z 0) ≤ z 2 + ak_st b n (z' 0) ∧ 13 * z' 3 + ak_st b n (z 0) ≤ 13 * z 3 + ak_st b n (z' 0) ∧ 6 * z' 4 + ak_st b n (z 0) ≤ 6 * z 4 + ak_st b n (z' 0)) (hk : kk ≤ 4 ∧ (kk = 0 ∨ o < 20)) (hs : 0 ≤ s ∧ s < (z' 7 : Int))
    (o0 : hc1.1 (ak_T u + 2) (z 1) = 2) (T3 : ∀ C M, ak_fut u p z1 z' (-1) hcP.1 hm'.1 C M → ak_X1 C M (ak_T u) p (ak_hx 222 (o + 1)) (ak_lt Mt lv) (z' 2 - z1 2) x kk (z1 1) (z' 1)) :
    ak_XP 228 u p b n m lv D o Mt z hc hm (ak_zu (ak_zu z' 1 (z' 1 + 1)) 2 (z' 2 + 1)) ((9000 * p + z' 2 : Nat) : Int) (ak_put hcP u (z' 1) 18 (s * 8 + (kk : Int))) (ak_three (ak_node hm' p (z' 2) 8 0) (9000 * p + z' 2) x (kk : Int) s) := by
  have ez3 := ak_ext_trans e0 e3
  have le0 := ak_ext_le e0
  have le3 := ak_ext_le e3
  have kb : 9000 * p + z' 2 < 9000 * p + 9000 := by omega
  have wn : ak_PI u p b n m lv D o Mt (ak_zu (ak_zu z' 1 (z' 1 + 1)) 2 (z' 2 + 1)) (ak_put hcP u (z' 1) 18 (s * 8 + (kk : Int))) (ak_three (ak_node hm' p (z' 2) 8 0) (9000 * p + z' 2) x (kk : Int) s) :=
    ak_PI_cell hu (ak_PI_cell hu (ak_PI_cell hu (ak_PI_node hu (ak_PI_put hu I' (r := 18) (x := s * 8 + (kk : Int))) (k := 8) (r := 0)) (Or.inl (by decide))) (Or.inl (by decide))) (Or.inl (by decide))
  have en : ak_ext u p z' (ak_zu (ak_zu z' 1 (z' 1 + 1)) 2 (z' 2 + 1)) hcP hm' (ak_put hcP u (z' 1) 18 (s * 8 + (kk : Int))) (ak_three (ak_node hm' p (z' 2) 8 0) (9000 * p + z' 2) x (kk : Int) s) :=
    ak_ext_cell (ak_ext_cell (ak_ext_cell (ak_ext_trans (ak_ext_put hu) (ak_ext_node (show z' 2 < 9000 by omega))) (by decide) (Nat.le_refl _) kb) (by decide) (Nat.le_refl _) kb) (by decide) (Nat.le_refl _) kb
  have e114 : (ak_three (ak_node hm' p (z' 2) 8 0) (9000 * p + z' 2) x (kk : Int) s).1 114 (9000 * p + z' 2) = 8 := by simp [ak_three, ak_node, am_up]
  have e116 : (ak_three (ak_node hm' p (z' 2) 8 0) (9000 * p + z' 2) x (kk : Int) s).1 116 (9000 * p + z' 2) = x := by simp [ak_three, am_up]
  have e117 : (ak_three (ak_node hm' p (z' 2) 8 0) (9000 * p + z' 2) x (kk : Int) s).1 117 (9000 * p + z' 2) = (kk : Int) := by simp [ak_three, am_up]
  have e118 : (ak_three (ak_node hm' p (z' 2) 8 0) (9000 * p + z' 2) x (kk : Int) s).1 118 (9000 * p + z' 2) = s := by simp [ak_three, am_up]
  have o1 : (ak_put hcP u (z' 1) 18 (s * 8 + (kk : Int))).1 (ak_T u + 2) (z' 1) = 18 := by simp [ak_put, am_up]
  have o2 : (ak_put hcP u (z' 1) 18 (s * 8 + (kk : Int))).1 (ak_T u + 3) (z' 1) = s * 8 + (kk : Int) := by simp [ak_put, am_up]
  refine ⟨wn, l, ?_, ak_ext_trans ez3 en, fun C2 M2 ft => ?_⟩
  · show 2 * (z' 1 + 1) + 1 + 3 * ak_st b n (z 0) + z 5 ≤ 2 * z 1 + 3 * ak_st b n (z' 0) + z' 5 ∧ z' 2 + 1 + ak_st b n (z 0) ≤ z 2 + ak_st b n (z' 0) ∧ 13 * z' 3 + ak_st b n (z 0) ≤ 13 * z 3 + ak_st b n (z' 0) ∧ 6 * z' 4 + ak_st b n (z 0) ≤ 6 * z 4 + ak_st b n (z' 0)
    omega
  · have f3 := ak_fut_fst (y := -1) ft ez3 en (Or.inl rfl)
    have f2 := ak_fut_snd (y := -1) f3 e0 e3 (Or.inl rfl)
    have f1 := ak_fut_fst (y := -1) ft e0 (ak_ext_trans e3 en) (Or.inl rfl)
    have b0 := (f1.1.1 (z 1) (Nat.le_refl _) (by omega)).1.trans o0
    have h127 : ((z' 7 : Nat) : Int) ≤ M2 127 p := ft.2.1.2
    obtain ⟨⟨a1, a2, a3, a4, a5⟩, -, -⟩ := ft
    have b1 := a1 (z' 1) (by omega) (Nat.lt_succ_self _)
    have c5 : ∀ q, 114 ≤ q → q ≤ 118 → M2 q (9000 * p + z' 2) = (ak_three (ak_node hm' p (z' 2) 8 0) (9000 * p + z' 2) x (kk : Int) s).1 q (9000 * p + z' 2) := fun q q1 q2 => a5 q _ q1 (by omega) (by omega) (by show 9000 * p + z' 2 < 9000 * p + (z' 2 + 1); omega) (by omega)
    have g114 := (c5 114 (by decide) (by decide)).trans e114
    have g116 := (c5 116 (by decide) (by decide)).trans e116
    have g117 := (c5 117 (by decide) (by decide)).trans e117
    have g118 := (c5 118 (by decide) (by decide)).trans e118
    intro k i hk2 hi
    have hi' : z' 2 + 1 - z 2 ≤ i := hi
    have hx : 7 * (20 - o) + 4 ≤ k := hk2
    have hH : kk = 0 ∨ ak_hx 222 (o + 1) + 4 ≤ k := by
      have e2 : ak_hx 222 (o + 1) = 7 * (20 - (o + 1)) + 7 := rfl
      rcases hk.2 with q | q
      · exact Or.inl q
      · exact Or.inr (by omega)
    refine ak_T3_fold ⟨_, rfl, ⟨by omega, by omega⟩, Or.inr (Or.inr (Or.inr (Or.inr (Or.inr (Or.inr (Or.inr (Or.inl ⟨g114, z' 1, kk, z' 2 - z1 2, ak_hx 222 (o + 1), b0, g117, hk.1, ⟨by omega, hH, ?_⟩, b1.1.trans o1, ?_, ?_, ?_, rfl⟩)))))))⟩
    · rw [g116, ← q1]; exact T3 C2 M2 f2 _ (Nat.le_refl _)
    · rw [g118]; exact b1.2.trans o2
    · rw [g118]; exact hs.1
    · rw [g118]; exact Int.lt_of_lt_of_le hs.2 h127
end LKPR
