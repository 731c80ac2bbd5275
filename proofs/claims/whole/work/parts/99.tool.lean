/-! what was made, seen from later on; a statement's node -/
section TOOL
variable {e : ak_X3} {d dd u p : Nat} {b : Nat → Int} {n m lv o Mt : Nat} {D : Nat → Nat} {z z' z1 z2 za zb : Nat → Nat} {hc hm hc1 hm1 hc2 hm2 hcb hmb hcF hmF hc' hm' : ak_S} {ρ : List Nat} {C M : Nat → Nat → Int}
/-- made on za to zb at hcb hmb, and still so at hcF hmF -/
def ak_mid (u p : Nat) (za zb : Nat → Nat) (hcb hmb : ak_S) (z' : Nat → Nat) (hcF hmF : ak_S) : Prop :=
  (∀ i, i ≤ 7 → zb i ≤ z' i) ∧ ak_agr u p za zb (-1) hcb.1 hmb.1 hcF.1 hmF.1 ∧ ∀ j, zb 4 ≤ j → j < z' 4 → ¬ ((za 3 : Int) ≤ hcF.1 (ak_T u + 10) j ∧ hcF.1 (ak_T u + 10) j < (zb 3 : Int))
theorem ak_mid_refl : ak_mid u p za zb hcb hmb zb hcb hmb := ⟨fun _ _ => Nat.le_refl _, ak_agr_refl, fun j h1 h2 => absurd h2 (by omega)⟩
theorem ak_mid_ext (w : ak_mid u p za zb hcb hmb z1 hc1 hm1) (e1 : ak_ext u p z1 z2 hc1 hm1 hc2 hm2) : ak_mid u p za zb hcb hmb z2 hc2 hm2 := by
  obtain ⟨w1, w2, w3⟩ := w
  have l := ak_ext_le e1
  have h1 := w1 1 (by decide)
  have h2 := w1 2 (by decide)
  have h3 := w1 3 (by decide)
  have h4 := w1 4 (by decide)
  have h5 := w1 5 (by decide)
  refine ⟨fun i hi => Nat.le_trans (w1 i hi) (e1.1 i hi), ak_agr_trans w2 (ak_agr_ext e1 (by omega)), fun j g1 g2 => ?_⟩
  rcases Nat.lt_or_ge j (z1 4) with g | g
  · rw [(e1.2.1.2.2.1 j (Nat.zero_le _) g).2.2.2]
    exact w3 j g1 g
  · have := e1.2.2.1 j g g2
    omega
theorem ak_mid_cell (w : ak_mid u p za zb hcb hmb z1 hc1 hm1) {q k : Nat} {v : Int} (hq : 110 ≤ q ∧ q ≤ 120) (hk : k < 9000 * p + za 2 ∨ 9000 * p + zb 2 ≤ k ∨ q < 114) : ak_mid u p za zb hcb hmb z1 hc1 (am_up hm1.1 q k v, hm1.2) :=
  ⟨w.1, ak_agr_trans w.2.1 (ak_agr_upM (by omega) (by omega)), w.2.2⟩
theorem ak_mid_land (w : ak_mid u p za zb hcb hmb z1 hc1 hm1) {k : Nat} {v : Int} (hk : k < za 1 ∨ zb 1 ≤ k) : ak_mid u p za zb hcb hmb z1 (ak_land hc1 u k v) hm1 := by
  refine ⟨w.1, ak_agr_trans w.2.1 (ak_agr_upC (by omega) (by omega) (by omega) (by omega)), fun j g1 g2 => ?_⟩
  rw [show (ak_land hc1 u k v).1 (ak_T u + 10) j = hc1.1 (ak_T u + 10) j from ak_up_out (by omega)]
  exact w.2.2 j g1 g2
theorem ak_mid_fut {x : Int} (w : ak_mid u p za zb hcb hmb z' hcF hmF) (ft : ak_fut u p z z' x hcF.1 hmF.1 C M) (l : z 1 ≤ za 1 ∧ z 2 ≤ za 2 ∧ z 3 ≤ za 3 ∧ z 4 ≤ za 4 ∧ z 5 ≤ za 5) (l4 : z 4 ≤ zb 4) (hx : x < ((9000 * p + za 2 : Nat) : Int) ∨ ((9000 * p + zb 2 : Nat) : Int) ≤ x) : ak_fut u p za zb (-1) hcb.1 hmb.1 C M := by
  obtain ⟨w1, w2, w3⟩ := w
  obtain ⟨f1, f2, f3⟩ := ft
  have h1 := w1 1 (by decide)
  have h2 := w1 2 (by decide)
  have h3 := w1 3 (by decide)
  have h4 := w1 4 (by decide)
  have h5 := w1 5 (by decide)
  have h7 := w1 7 (by decide)
  refine ⟨ak_agr_trans w2 (ak_agr_sub f1 l ⟨h1, h2, h3, h4, h5⟩ (Or.inr hx)), by omega, fun j g1 g2 => ?_⟩
  rcases Nat.lt_or_ge j (z' 4) with g | g
  · rw [(f1.2.2.1 j (by omega) g).2.2.2]
    exact w3 j g1 g
  · have := f3 j g g2
    omega
/-- a node's cells: kind, one, two, three, four, next, place -/
def ak_nd (hm : ak_S) (y : Nat) (k a b c d x w : Int) : Prop := hm.1 114 y = k ∧ hm.1 115 y = a ∧ hm.1 116 y = b ∧ hm.1 117 y = c ∧ hm.1 118 y = d ∧ hm.1 119 y = x ∧ hm.1 120 y = w
theorem ak_nd_new {y : Nat} {k w : Int} : ak_nd (ak_node hm p y k w) (9000 * p + y) k (-1) (-1) (-1) (-1) (-1) w := by
  unfold ak_nd
  refine ⟨?_, ?_, ?_, ?_, ?_, ?_, ?_⟩ <;> simp [ak_node, am_up]
theorem ak_nd_ext {y : Nat} {k a c r s x w : Int} (e1 : ak_ext u p z1 z2 hc1 hm1 hc2 hm2) (hy : y < z1 2) (g : ak_nd hm1 (9000 * p + y) k a c r s x w) : ak_nd hm2 (9000 * p + y) k a c r s x w := by
  obtain ⟨g1, g2, g3, g4, g5, g6, g7⟩ := g
  have f : ∀ q, 114 ≤ q → q ≤ 120 → hm2.1 q (9000 * p + y) = hm1.1 q (9000 * p + y) := fun q h1 h2 => e1.2.1.2.2.2.2 q _ h1 h2 (by unfold ak_z0; omega) (by omega) (by omega)
  exact ⟨(f 114 (by decide) (by decide)).trans g1, (f 115 (by decide) (by decide)).trans g2, (f 116 (by decide) (by decide)).trans g3, (f 117 (by decide) (by decide)).trans g4, (f 118 (by decide) (by decide)).trans g5, (f 119 (by decide) (by decide)).trans g6, (f 120 (by decide) (by decide)).trans g7⟩
theorem ak_nd_fr {y : Nat} {k a c r s x w : Int} (f : ∀ q, 114 ≤ q → q ≤ 120 → hm2.1 q y = hm1.1 q y) (g : ak_nd hm1 y k a c r s x w) : ak_nd hm2 y k a c r s x w := by
  obtain ⟨g1, g2, g3, g4, g5, g6, g7⟩ := g
  exact ⟨(f 114 (by decide) (by decide)).trans g1, (f 115 (by decide) (by decide)).trans g2, (f 116 (by decide) (by decide)).trans g3, (f 117 (by decide) (by decide)).trans g4, (f 118 (by decide) (by decide)).trans g5, (f 119 (by decide) (by decide)).trans g6, (f 120 (by decide) (by decide)).trans g7⟩
theorem ak_nd_115 {y : Nat} {k a c r s x w v : Int} (g : ak_nd hm y k a c r s x w) : ak_nd (am_up hm.1 115 y v, hm.2) y k v c r s x w := by
  obtain ⟨g1, g2, g3, g4, g5, g6, g7⟩ := g
  exact ⟨(ak_up_out1 (by omega)).trans g1, ak_up_at1, (ak_up_out1 (by omega)).trans g3, (ak_up_out1 (by omega)).trans g4, (ak_up_out1 (by omega)).trans g5, (ak_up_out1 (by omega)).trans g6, (ak_up_out1 (by omega)).trans g7⟩
theorem ak_nd_116 {y : Nat} {k a c r s x w v : Int} (g : ak_nd hm y k a c r s x w) : ak_nd (am_up hm.1 116 y v, hm.2) y k a v r s x w := by
  obtain ⟨g1, g2, g3, g4, g5, g6, g7⟩ := g
  exact ⟨(ak_up_out1 (by omega)).trans g1, (ak_up_out1 (by omega)).trans g2, ak_up_at1, (ak_up_out1 (by omega)).trans g4, (ak_up_out1 (by omega)).trans g5, (ak_up_out1 (by omega)).trans g6, (ak_up_out1 (by omega)).trans g7⟩
theorem ak_nd_117 {y : Nat} {k a c r s x w v : Int} (g : ak_nd hm y k a c r s x w) : ak_nd (am_up hm.1 117 y v, hm.2) y k a c v s x w := by
  obtain ⟨g1, g2, g3, g4, g5, g6, g7⟩ := g
  exact ⟨(ak_up_out1 (by omega)).trans g1, (ak_up_out1 (by omega)).trans g2, (ak_up_out1 (by omega)).trans g3, ak_up_at1, (ak_up_out1 (by omega)).trans g5, (ak_up_out1 (by omega)).trans g6, (ak_up_out1 (by omega)).trans g7⟩
theorem ak_nd_118 {y : Nat} {k a c r s x w v : Int} (g : ak_nd hm y k a c r s x w) : ak_nd (am_up hm.1 118 y v, hm.2) y k a c r v x w := by
  obtain ⟨g1, g2, g3, g4, g5, g6, g7⟩ := g
  exact ⟨(ak_up_out1 (by omega)).trans g1, (ak_up_out1 (by omega)).trans g2, (ak_up_out1 (by omega)).trans g3, (ak_up_out1 (by omega)).trans g4, ak_up_at1, (ak_up_out1 (by omega)).trans g6, (ak_up_out1 (by omega)).trans g7⟩
theorem ak_nd_119 {y : Nat} {k a c r s x w v : Int} (g : ak_nd hm y k a c r s x w) : ak_nd (am_up hm.1 119 y v, hm.2) y k a c r s v w := by
  obtain ⟨g1, g2, g3, g4, g5, g6, g7⟩ := g
  exact ⟨(ak_up_out1 (by omega)).trans g1, (ak_up_out1 (by omega)).trans g2, (ak_up_out1 (by omega)).trans g3, (ak_up_out1 (by omega)).trans g4, (ak_up_out1 (by omega)).trans g5, ak_up_at1, (ak_up_out1 (by omega)).trans g7⟩
/-- later on, all but the next -/
theorem ak_nd_M {y : Nat} {k a c r s x w : Int} (g : ak_nd hmF (9000 * p + y) k a c r s x w) (ft : ak_fut u p z z' ((9000 * p + y : Nat) : Int) hcF.1 hmF.1 C M) (h1 : z 2 ≤ y) (h2 : y < z' 2) : M 114 (9000 * p + y) = k ∧ M 115 (9000 * p + y) = a ∧ M 116 (9000 * p + y) = c ∧ M 117 (9000 * p + y) = r ∧ M 118 (9000 * p + y) = s ∧ M 120 (9000 * p + y) = w := by
  obtain ⟨g1, g2, g3, g4, g5, g6, g7⟩ := g
  have f : ∀ q, 114 ≤ q → q ≤ 120 → q ≠ 119 → M q (9000 * p + y) = hmF.1 q (9000 * p + y) := fun q q1 q2 q3 => ft.1.2.2.2.2 q _ q1 q2 (by omega) (by omega) (fun h => q3 h.1)
  exact ⟨(f 114 (by decide) (by decide) (by decide)).trans g1, (f 115 (by decide) (by decide) (by decide)).trans g2, (f 116 (by decide) (by decide) (by decide)).trans g3, (f 117 (by decide) (by decide) (by decide)).trans g4, (f 118 (by decide) (by decide) (by decide)).trans g5, (f 120 (by decide) (by decide) (by decide)).trans g7⟩
/-- orders made earlier -/
theorem ak_od_ext {c : Nat} {v : Int} (e1 : ak_ext u p z1 z2 hc1 hm1 hc2 hm2) (hc3 : c < z1 1) (g : hc1.1 (ak_T u + 2) c = v) : hc2.1 (ak_T u + 2) c = v := (e1.2.1.1 c (Nat.zero_le _) hc3).1.trans g
theorem ak_oa_ext {c : Nat} {v : Int} (e1 : ak_ext u p z1 z2 hc1 hm1 hc2 hm2) (hc3 : c < z1 1) (g : hc1.1 (ak_T u + 3) c = v) : hc2.1 (ak_T u + 3) c = v := (e1.2.1.1 c (Nat.zero_le _) hc3).2.trans g
theorem ak_put_2 {c : Nat} {r v : Int} : (ak_put hc u c r v).1 (ak_T u + 2) c = r := by simp [ak_put, am_up]
theorem ak_put_3 {c : Nat} {r v : Int} : (ak_put hc u c r v).1 (ak_T u + 3) c = v := by simp [ak_put, am_up]
/-- an expression at any depth -/
theorem lk_e {ρ0 ρ3 ρ4 t : Nat} (hd : 20 * (20 - o) + 13 ≤ dd) (hE : ak_EX e u p b n m ρ0 ρ3 ρ4 ρ 34 222 13 13 t) (w : ak_PI u p b n m lv D o Mt z hc hm) (pt : ak_POT b n o 2 z) (ht : m ≤ z 0 + t) :
    ak_MV e 0 dd [ρ0, ak_T u, ak_T u + 1, ρ3, ρ4] 34 [am_r 2, am_i (o : Int)] hc (ak_XQ e ρ (dd + 1) 222 u p b n m lv D o Mt z hc hm) (ak_XX e ρ (dd + 1) 222 u p hc hm) := by
  have key := hE lv D o Mt z hc hm (dd - (20 * (20 - o) + 13)) w pt ht
  have ed : dd - (20 * (20 - o) + 13) + 20 * (20 - o) + 13 = dd := by omega
  rw [ed] at key
  refine ak_MV_imp key (fun hc1 R => ?_) (fun ex hcx R => ?_)
  · obtain ⟨z', x, hm', P, go⟩ := R
    exact ⟨z', x, hm', P, ak_goI_up go⟩
  · obtain ⟨h1, x, hm', wr, go⟩ := R
    exact ⟨h1, x, hm', wr, ak_goI_up go⟩
theorem ak_WR_z (w : ak_PI u p b n m lv D o Mt z hc hm) (hz : z 2 ≤ 6130) : ak_WR u p hc hm (ak_th hc) (ak_wr hm) := by
  have hop := w.2.2.2.1
  have h34 := w.2.1.2.2.2.1
  have h39 := w.1.2.2.2.2.2.1
  have hz2 := w.2.2.2.2.2.2.2.2.2.1
  have e1 : (ak_wr hm).1 110 37 = ((ak_st b n (z 0) : Nat) : Int) := by
    show am_up hm.1 110 37 (hm.1 110 34) 110 37 = _
    rw [ak_up_eq, h34]
  have e2 : (ak_wr hm).1 121 p = (z 2 : Int) := by
    show am_up hm.1 110 37 (hm.1 110 34) 121 p = _
    rw [ak_up_out (by omega), hz2]
  refine ⟨by omega, ?_, ak_pC_th, ak_pM_wr, by omega, by omega, rfl, rfl⟩
  rw [e1]
  exact h39.symm
/-- an opening bracket, a token that must be there, with room for the node alone -/
theorem lk_open2 {ρ0 ρ3 ρ4 : Nat} {Q : ak_S → Prop} {X : Nat → ak_S → Prop} {t : Int} {dm : Nat} (hu : u = 0 ∨ u = 1) (ht : t ≠ 0) (w : ak_PI u p b n m lv D o Mt z hc hm) (hz : z 2 ≤ 6130)
    (ok : ∀ hc' hm', ak_kd b n (ak_st b n (z 0)) = t → o < 20 → ak_PI u p b n m lv D (o + 1) Mt (ak_zu z 0 (z 0 + 1)) hc' hm' → ak_ext u p z (ak_zu z 0 (z 0 + 1)) hc hm hc' hm' → ak_st b n (z 0) + 1 ≤ ak_st b n (z 0 + 1) → ak_goV e (dm + 4) ρ 210 [am_r 110, am_i t] hm hm' → Q hc')
    (bad : ak_WR u p hc hm (ak_th hc) (ak_wr hm) → ak_goV e (dm + 4) ρ 210 [am_r 110, am_i t] hm (ak_wr hm) → X 0 (ak_th hc)) :
    ak_MV e 0 (d + 2) [ρ0, ak_T u, ak_T u + 1, ρ3, ρ4] 12 [am_r 2, am_i t, am_i (o : Int)] hc Q X := by
  have hst := (ak_st_n w).1
  refine am_s12 hu w.1 ht (fun hk ho hc1 C1 fr => ?_) (fun no => bad (ak_WR_z w hz) (fun P Y q => am_s210 w.2.2.1 w.2.1 hst w.2.2.2.1.1 w.2.2.2.1.2 (fun k1 k2 => absurd ⟨k1, by omega⟩ no) (fun _ => q)))
  have ho' : o < 20 := by omega
  obtain ⟨hm1, ⟨M1, fr1⟩, go⟩ := ak_MV_get (e := e) (r := 1) (d := dm + 4) (ρ := ρ) (am_s210 (d := dm) (X := ak_F) w.2.2.1 w.2.1 hst w.2.2.2.1.1 w.2.2.2.1.2 (fun _ _ h' c f => (⟨c, f⟩ : ak_cm b n p h' (z 0 + 1) ∧ ak_rfr (am_up hm.1 110 38 ((o + 1 : Nat) : Int), hm.2) h')) (fun no => absurd ⟨hk, ho'⟩ no))
  refine ok hc1 hm1 hk ho' (ak_PI_step hu (ak_PI_open w (o' := o + 1) (by omega) (Nat.le_succ_of_le (ak_lvo w))) C1 fr M1 fr1) (ak_ext_trans (ak_ext_note ak_ext_refl (k := 38) (v := ((o + 1 : Nat) : Int)) (Or.inl (by decide))) (ak_ext_step hu fr fr1)) (ak_st_up w.1 (ak_cc_lt w.1 (by rw [hk]; exact ht))) (fun P Y q => go P Y q)
theorem lk_pass2 {ρ0 ρ3 ρ4 : Nat} {Q : ak_S → Prop} {X : Nat → ak_S → Prop} {t : Int} {dm : Nat} (hu : u = 0 ∨ u = 1) (ht : t ≠ 0) (w : ak_PI u p b n m lv D o Mt z hc hm) (hz : z 2 ≤ 6130)
    (ok : ∀ hc' hm', ak_kd b n (ak_st b n (z 0)) = t → ak_PI u p b n m lv D o Mt (ak_zu z 0 (z 0 + 1)) hc' hm' → ak_ext u p z (ak_zu z 0 (z 0 + 1)) hc hm hc' hm' → ak_st b n (z 0) + 1 ≤ ak_st b n (z 0 + 1) → ak_goV e (dm + 4) ρ 209 [am_r 110, am_i t] hm hm' → Q hc')
    (bad : ak_WR u p hc hm (ak_th hc) (ak_wr hm) → ak_goV e (dm + 4) ρ 209 [am_r 110, am_i t] hm (ak_wr hm) → X 0 (ak_th hc)) :
    ak_MV e 0 (d + 2) [ρ0, ak_T u, ak_T u + 1, ρ3, ρ4] 11 [am_r 2, am_i t] hc Q X := by
  have hst := (ak_st_n w).1
  refine am_s11 hu w.1 ht (fun hk hc1 C1 fr => ?_) (fun no => bad (ak_WR_z w hz) (fun P Y q => am_s209 w.2.2.1 w.2.1 hst (fun k => absurd k no) (fun _ => q)))
  obtain ⟨hm1, ⟨M1, fr1⟩, go⟩ := ak_MV_get (e := e) (r := 1) (d := dm + 4) (ρ := ρ) (am_s209 (d := dm) (X := ak_F) w.2.2.1 w.2.1 hst (fun _ h' c f => (⟨c, f⟩ : ak_cm b n p h' (z 0 + 1) ∧ ak_rfr hm h')) (fun no => absurd hk no))
  exact ok hc1 hm1 hk (ak_PI_step hu w C1 fr M1 fr1) (ak_ext_step hu fr fr1) (ak_st_up w.1 (ak_cc_lt w.1 (by rw [hk]; exact ht))) (fun P Y q => go P Y q)
end TOOL
