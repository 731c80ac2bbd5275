/-! guards: the ons, both sides at once -/
section GD1
variable {e : ak_X3} {d dd dm u p : Nat} {b : Nat → Int} {n m lv o Mt : Nat} {D : Nat → Nat} {z z' z1 z2 zA za zb : Nat → Nat} {hc hm hc0 hm0 hc1 hm1 hc2 hm2 hcb hmb hcc hmc : ak_S} {ρ : List Nat} {C M : Nat → Nat → Int}
theorem ak_sub_no {P : ak_Pp} (s : ak_sub u p P za zb z1 hc hm) {kk wd ss : Int} {g : Nat} (hg : g < za 3) : ak_sub u p P za zb (ak_zu z1 4 (z1 4 + 1)) (ak_newon hc u (z1 4) kk wd ss (g : Int)) hm := by
  obtain ⟨a, c, h1, h2⟩ := s
  exact ⟨a, c, ak_mid_no h1 hg, h2⟩
theorem ak_mid_C (w : ak_mid u p za zb hcb hmb z1 hc hm) {q k : Nat} {v : Int} (hq : q = ak_T u + 5 ∨ q = ak_T u + 6) (hk : k < za 3) : ak_mid u p za zb hcb hmb z1 (am_up hc.1 q k v, hc.2) hm := by
  refine ⟨w.1, ak_agr_trans w.2.1 (ak_agr_upC (by omega) (by omega) (by omega) (by omega)), fun j h1 h2 => ?_⟩
  rw [show (am_up hc.1 q k v, hc.2).1 (ak_T u + 10) j = hc.1 (ak_T u + 10) j from ak_up_out (by omega)]
  exact w.2.2 j h1 h2
theorem ak_sub_C {P : ak_Pp} (s : ak_sub u p P za zb z1 hc hm) {q j : Nat} {v : Int} (hq : q = ak_T u + 5 ∨ q = ak_T u + 6) (hk : j < za 3) : ak_sub u p P za zb z1 (am_up hc.1 q j v, hc.2) hm := by
  obtain ⟨a, c, h1, h2⟩ := s
  exact ⟨a, c, ak_mid_C h1 hq hk, h2⟩
theorem ak_nd_out {y q j : Nat} {k a c r s x w v : Int} (g : ak_nd hm y k a c r s x w) (h : j ≠ y) : ak_nd (am_up hm.1 q j v, hm.2) y k a c r s x w :=
  ak_nd_fr (fun q' _ _ => ak_up_out (by omega)) g
/-- the orders and the row of a guard, what lies between -/
def ak_GH (u : Nat) (z : Nat → Nat) (cA iA : Nat) (hc1 : ak_S) : Prop :=
  hc1.1 (ak_T u + 2) (z 1) = 36 ∧ hc1.1 (ak_T u + 3) (z 1) = (z 3 : Int) ∧ hc1.1 (ak_T u + 2) cA = 37 ∧ hc1.1 (ak_T u + 3) cA = (z 3 : Int) ∧ hc1.1 (ak_T u + 4) (z 3) = (z 4 : Int) ∧ hc1.1 (ak_T u + 5) (z 3) = -1 ∧ ∀ j : Nat, z 4 ≤ j → j < iA → (z 3 : Int) < hc1.1 (ak_T u + 10) j
theorem ak_GH_ext {cA iA : Nat} (G : ak_GH u z cA iA hc1) (e1 : ak_ext u p z1 z2 hc1 hm1 hc2 hm2) (h1 : z 1 < z1 1) (h2 : cA < z1 1) (h3 : z 3 < z1 3) (h4 : iA ≤ z1 4) : ak_GH u z cA iA hc2 := by
  obtain ⟨g1, g2, g3, g4, g5, g6, g7⟩ := G
  have a := e1.2.1
  refine ⟨(a.1 _ (Nat.zero_le _) h1).1.trans g1, (a.1 _ (Nat.zero_le _) h1).2.trans g2, (a.1 _ (Nat.zero_le _) h2).1.trans g3, (a.1 _ (Nat.zero_le _) h2).2.trans g4, (a.2.1 _ (Nat.zero_le _) h3).1.trans g5, (a.2.1 _ (Nat.zero_le _) h3).2.1.trans g6, fun j q1 q2 => ?_⟩
  rw [(a.2.2.1 j (Nat.zero_le _) (by omega)).2.2.2]
  exact g7 j q1 q2
theorem ak_GH_no {cA iA i : Nat} (G : ak_GH u z cA iA hc1) {kk wd ss g : Int} (h4 : iA ≤ i) : ak_GH u z cA iA (ak_newon hc1 u i kk wd ss g) := by
  obtain ⟨g1, g2, g3, g4, g5, g6, g7⟩ := G
  refine ⟨(ak_newon_at (by omega) (by omega)).trans g1, (ak_newon_at (by omega) (by omega)).trans g2, (ak_newon_at (by omega) (by omega)).trans g3, (ak_newon_at (by omega) (by omega)).trans g4, (ak_newon_at (by omega) (by omega)).trans g5, (ak_newon_at (by omega) (by omega)).trans g6, fun j q1 q2 => ?_⟩
  rw [ak_newon_at (by omega) (by omega)]
  exact g7 j q1 q2
/-- lk_may, with room for a node alone -/
theorem lk_may2 {ρ0 ρ3 ρ4 : Nat} {Q : ak_S → Prop} {X : Nat → ak_S → Prop} (hu : u = 0 ∨ u = 1) (w : ak_PI u p b n m lv D o Mt z hc hm) (hz : z 2 ≤ 6130)
    (ok : ak_kd b n (ak_st b n (z 0)) = 2 → D lv < 12 → ak_wd b n (ak_st b n (z 0)) (ak_nx b n (ak_st b n (z 0)) - ak_st b n (z 0)) → hc.2.1 3 10 = ak_pk b (ak_st b n (z 0)) (ak_nx b n (ak_st b n (z 0)) - ak_st b n (z 0)) → ak_goV e (dm + 4) ρ 215 [am_r 110] hm hm → Q hc)
    (bad : ak_WR u p hc hm (ak_th hc) (ak_wr hm) → ak_goV e (dm + 4) ρ 215 [am_r 110] hm (ak_wr hm) → X 0 (ak_th hc)) : ak_MV e 0 (d + 2) [ρ0, ak_T u, ak_T u + 1, ρ3, ρ4] 16 [am_r 2] hc Q X := by
  have hkC := w.1.2.2.2.2.1
  have tk := w.2.1.2.2.1
  have hf := w.2.2.1
  have sc := w.2.2.2.2.1
  have v10 : ak_kd b n (ak_st b n (z 0)) = 2 → ak_wd b n (ak_st b n (z 0)) (ak_nx b n (ak_st b n (z 0)) - ak_st b n (z 0)) ∧ hc.2.1 3 10 = ak_pk b (ak_st b n (z 0)) (ak_nx b n (ak_st b n (z 0)) - ak_st b n (z 0)) := by
    intro hk
    obtain ⟨hin, hl, wd, hv⟩ := ak_kd_word hk
    refine ⟨wd, ?_⟩
    rw [w.1.2.2.2.2.2.2]
    exact hv _ (w.1.2.1 (z 0) w.1.1.1).2.2
  have W := ak_WR_z w hz
  have same : ak_may hc D lv (hm.1 110 33) (ak_pk b (ak_st b n (z 0)) (ak_nx b n (ak_st b n (z 0)) - ak_st b n (z 0))) ↔ ak_may hc D lv (hc.1 3 8) (hc.2.1 3 10) := by
    rw [hkC, tk]
    constructor
    · intro h
      have h2 := (v10 h.1).2
      rw [h2]; exact h
    · intro h
      have h2 := (v10 h.1).2
      rw [h2] at h; exact h
  refine am_s16 hu sc (fun my => ?_) (fun no => ?_)
  · have hk : ak_kd b n (ak_st b n (z 0)) = 2 := hkC.symm.trans my.1
    exact ok hk my.2.1 (v10 hk).1 (v10 hk).2 (fun P Y q => am_s215 sc w.2.1.1 hf w.2.1.2.2.2.1 w.2.1.2.2.2.2.1 (fun _ => (v10 hk).1) (fun _ => q) (fun h => absurd (same.2 my) h))
  · exact bad W (fun P Y q => am_s215 sc w.2.1.1 hf w.2.1.2.2.2.1 w.2.1.2.2.2.2.1 (fun h => (v10 (tk.symm.trans h)).1) (fun h => absurd (same.1 h) no) (fun _ => q))
/-- an on, both sides: from the token on to behind its LEAVE -/
theorem lk_on {ρ0 ρ3 ρ4 t : Nat} {S x2 : Int} {Q : ak_S → Prop} (hu : u = 0 ∨ u = 1) (hS : ∀ t', t' < t → ak_SX e u p b n m ρ0 ρ3 ρ4 ρ t') (w : ak_PI u p b n m lv D o Mt z hc hm) (ht : m ≤ z 0 + t) (hk : ak_kd b n (ak_st b n (z 0)) = 210) (g : Nat)
    (pt : 2 * z 1 ≤ 3 * ak_st b n (z 0) + z 5 + 10 * o + 10 ∧ z 2 ≤ ak_st b n (z 0) + 2 * o + 2 ∧ 13 * z 3 ≤ ak_st b n (z 0) + 13 * o + 6 ∧ 6 * z 4 + 1 ≤ ak_st b n (z 0)) (hg : g < 500)
    {hcB hmB : ak_S} {lv0 : Nat} {D0 : Nat → Nat} {zB : Nat → Nat} (wB : ak_PI u p b n m lv0 D0 o Mt zB hcB hmB) (eB : ak_ext u p zB z hcB hmB hc hm) (hgB : zB 3 ≤ g) (hgB2 : g < z 3)
    (run : ∀ (Q : Int → ak_S → Prop) (X : Nat → ak_S → Prop), (ak_MV e 1 (d + 20 * (20 - o) + 23) ρ 205 [am_r 110] hm (fun h10 =>
        ak_MI e 1 (d + 20 * (20 - o) + 23) ρ 206 [am_r 110] h10 (fun v12 h11 =>
          (v12 ≠ 0 →
            ak_MV e 1 (d + 20 * (20 - o) + 23) ρ 207 [am_r 110, am_i (h11.1 110 34)] h11 (fun h13 =>
              ak_W0 e 1 (d + 20 * (20 - o) + 23) 234 ρ 73 [some (am_r 110), none, some (am_i S), some (am_i x2), none, none] [] h13 (ak_qi Q (fun _ _ => False))) (fun _ _ => False))
          ∧ (v12 = 0 →
            (h11.1 110 33 ≠ 3 →
              ak_MV e 1 (d + 20 * (20 - o) + 23) ρ 207 [am_r 110, am_i (h11.1 110 34)] h11 (fun h14 =>
                ak_W0 e 1 (d + 20 * (20 - o) + 23) 234 ρ 73 [some (am_r 110), none, some (am_i S), some (am_i x2), none, none] [] h14 (ak_qi Q (fun _ _ => False))) (fun _ _ => False))
            ∧ (h11.1 110 33 = 3 →
              (h11.1 110 36 ≤ 99 →
                ak_W0 e 1 (d + 20 * (20 - o) + 23) 234 ρ 73 [some (am_r 110), none, some (am_i S), some (am_i x2), none, none] [] h11 (ak_qi Q (fun _ _ => False)))
              ∧ (99 < h11.1 110 36 →
                ak_MV e 1 (d + 20 * (20 - o) + 23) ρ 207 [am_r 110, am_i (h11.1 110 34)] h11 (fun h15 =>
                  ak_W0 e 1 (d + 20 * (20 - o) + 23) 234 ρ 73 [some (am_r 110), none, some (am_i S), some (am_i x2), none, none] [] h15 (ak_qi Q (fun _ _ => False))) (fun _ _ => False))))) (fun _ _ => False)) (fun _ _ => False)) → ak_MI e 1 (d + 20 * (20 - o) + 25) ρ 233 [am_r 110] hmB Q X)
    (bS : (0 ≤ S ∧ S < 18000) ∧ (S.toNat < 9000 * p + z 2 ∧ 9000 * p ≤ S.toNat)) (bx : x2 < 0 ∨ (0 ≤ x2 ∧ x2 < 18000 ∧ x2.toNat < 9000 * p + z 2 ∧ 9000 * p ≤ x2.toNat))
    (ok : ∀ (D' z2 : Nat → Nat) (hc' hm' : ak_S), ak_PI u p b n m lv D' o Mt z2 hc' hm' → z 0 < z2 0 →
        (2 * z2 1 + 4 + 3 * ak_st b n (z 0) + z 5 ≤ 2 * z 1 + 3 * ak_st b n (z2 0) + z2 5 ∧ z2 2 + ak_st b n (z 0) ≤ z 2 + ak_st b n (z2 0) ∧ 13 * z2 3 + 6 + ak_st b n (z 0) ≤ 13 * z 3 + ak_st b n (z2 0) ∧ 6 * z2 4 + ak_st b n (z 0) ≤ 6 * z 4 + ak_st b n (z2 0)) →
        ak_ext u p zB z2 hcB hmB hc' hm' → (∀ s, s < lv → D' s = D s) →
        (∀ (za : Nat → Nat), g < za 3 → ak_mid u p za z hc hm z2 hc' hm') → (∀ (P : ak_Pp) (za zb : Nat → Nat), g < za 3 → zb 2 ≤ z 2 → ak_sub u p P za zb z hc hm → ak_sub u p P za zb z2 hc' hm') →
        (∀ (zz : Nat → Nat) (cA iA : Nat), ak_GH u zz cA iA hc → zz 1 < z 1 → cA < z 1 → zz 3 < z 3 → iA ≤ z 4 → ak_GH u zz cA iA hc') → (∀ (y : Nat) (k a c r s x w : Int), y < z 2 → ak_nd hm (9000 * p + y) k a c r s x w → ak_nd hm' (9000 * p + y) k a c r s x w) →
        z 1 < z2 1 → z 2 < z2 2 → z 3 ≤ z2 3 → z 4 < z2 4 → z 5 ≤ z2 5 → hm'.1 119 (9000 * p + z 2) = -1 →
        (∀ C M, ak_fut u p z z2 ((9000 * p + z 2 : Nat) : Int) hc'.1 hm'.1 C M → ∀ G i c, 20 ≤ G + o → G ≤ 21 → z2 2 - z 2 + 21 ≤ i + o → ak_T3 C M (ak_T u) p 3 (M 119 (9000 * p + z 2)) g (ak_lt Mt lv + 1000 * G + 32000 * i) (z2 4) (z2 1) c → ak_T3 C M (ak_T u) p 3 ((9000 * p + z 2 : Nat) : Int) g (ak_lt Mt lv + 1000 * G + 32000 * i) (z 4) (z 1) c) →
        (∀ (Q : Int → ak_S → Prop) (X : Nat → ak_S → Prop), ((0 ≤ x2 → ak_W0 e 1 (d + 20 * (20 - o) + 23) 234 ρ 27 [some (am_r 110), none, some (am_i S), some (am_i ((9000 * p + z 2 : Nat) : Int)), some (am_i 1), none] [] (am_up hm'.1 119 x2.toNat ((9000 * p + z 2 : Nat) : Int), hm'.2) (ak_qi Q (fun _ _ => False))) ∧
          (x2 < 0 → ak_W0 e 1 (d + 20 * (20 - o) + 23) 234 ρ 27 [some (am_r 110), none, some (am_i S), some (am_i ((9000 * p + z 2 : Nat) : Int)), some (am_i 1), none] [] (am_up hm'.1 116 S.toNat ((9000 * p + z 2 : Nat) : Int), hm'.2) (ak_qi Q (fun _ _ => False)))) → ak_MI e 1 (d + 20 * (20 - o) + 25) ρ 233 [am_r 110] hmB Q X) → Q hc') :
    ak_MV e 0 (d + 20 * (20 - o) + 23) [ρ0, ak_T u, ak_T u + 1, ρ3, ρ4] 33 [am_r 2, am_i (g : Int), am_i (o : Int)] hc Q (ak_XXs e ρ (d + 20 * (20 - o) + 25) 233 u p hcB hmB) := by
  have hp2 := w.2.1.1.2.1
  have n6 := (ak_st_n w).2.1
  have o20 := (ak_st_n w).2.2.1
  have z560 := (ak_st_n w).2.2.2
  have hst := (ak_st_n w).1
  have leB := ak_ext_le eB
  have lB2 : zB 2 ≤ z 2 := leB.2.2.1
  have su0 := ak_st_key (j := 10) (q := 1) w.1 hk (by decide) rfl (by decide)
  refine ak_MV_of (Nat.le_of_ble_eq_true rfl) (am_k33_0 hu (lk_adv (dm := d + 20 * (20 - o) + 20) (ρ := ρ) hu w (by omega) (fun hc1 hm1 I1 fr1 frm1 e1 su1 rd1 => ?_)))
  have hf1 := I1.2.2.1
  have hst1 : ak_st b n (z 0 + 1) ≤ n := (ak_st_n I1).1
  have hz2 : z 2 < 6060 := by omega
  have bvy : 0 ≤ ((9000 * p + z 2 : Nat) : Int) ∧ ((9000 * p + z 2 : Nat) : Int) < 18000 := by omega
  have tk1 : hm1.1 110 33 = ak_kd b n (ak_st b n (z 0 + 1)) := I1.2.1.2.2.1
  have nu1 : ak_st b n (z 0 + 1) < n → ak_dB (b (ak_st b n (z 0 + 1))) = true → ak_nx b n (ak_st b n (z 0 + 1)) - ak_st b n (z 0 + 1) ≤ 9 → hm1.1 110 36 = ak_nu b (ak_st b n (z 0 + 1)) (ak_nx b n (ak_st b n (z 0 + 1)) - ak_st b n (z 0 + 1)) := I1.2.1.2.2.2.2.2
  have hkC : hc1.1 3 8 = ak_kd b n (ak_st b n (z 0 + 1)) := I1.1.2.2.2.2.1
  have eB1 := ak_ext_trans eB e1
  have W := ak_WR_z I1 (show z 2 ≤ 6130 by omega)
  have runB : ¬ (ak_kd b n (ak_st b n (z 0 + 1)) = 3 ∧ hm1.1 110 36 ≤ 99) → ∀ (Q : Int → ak_S → Prop) (X : Nat → ak_S → Prop), Q (-1) (ak_wr hm1) → ak_MI e 1 (d + 20 * (20 - o) + 25) ρ 233 [am_r 110] hmB Q X := by
    intro no Q X gg
    have tail : ak_MV e 1 (d + 20 * (20 - o) + 23) ρ 207 [am_r 110, am_i (hm1.1 110 34)] hm1 (fun h38 =>
            ak_W0 e 1 (d + 20 * (20 - o) + 23) 234 ρ 73 [some (am_r 110), none, some (am_i S), some (am_i x2), none, none] [] h38 (ak_qi Q (fun _ _ => False))) (fun _ _ => False) :=
      am_s207 (fun _ => am_k234_73 (am_w206 W.1 ⟨fun q => absurd q (by decide), fun _ => gg⟩)) (fun q => absurd q (Int.not_le.mpr hf1))
    refine run Q X (rd1 _ _ (am_s206 (fun _ => ⟨fun q => absurd rfl q, fun _ => ⟨fun _ => tail, fun q3 => ⟨fun q99 => ?_, fun _ => tail⟩⟩⟩) (fun q => absurd q (Int.not_le.mpr hf1))))
    exact absurd ⟨tk1.symm.trans q3, q99⟩ no
  have badC : ¬ (ak_kd b n (ak_st b n (z 0 + 1)) = 3 ∧ hm1.1 110 36 ≤ 99) → ak_W0 e 0 (d + 20 * (20 - o) + 22) 33 [ρ0, ak_T u, ak_T u + 1, ρ3, ρ4] 37 [some (am_r 2), some (am_i (g : Int)), some (am_i (o : Int)), none] [am_i 0] hc1 (ak_qv Q (ak_XXs e ρ (d + 20 * (20 - o) + 25) 233 u p hcB hmB)) :=
    fun no => am_k33_37 hu (am_s10 hu (fun q => absurd rfl q) (fun _ => ⟨rfl, -1, _, ak_WR_s (ak_WR_ext wB I1 (Nat.le_refl _) eB1 W), fun Q X g => runB no Q X g⟩))
  refine ⟨fun k3 => badC (fun q => k3 (hkC.trans q.1)), fun k3 => ?_⟩
  have k3' : ak_kd b n (ak_st b n (z 0 + 1)) = 3 := hkC.symm.trans k3
  obtain ⟨hin, hd9, hl9, hnu, hv⟩ := ak_kd_num k3'
  have v10 : hc1.2.1 3 10 = ak_nu b (ak_st b n (z 0 + 1)) (ak_nx b n (ak_st b n (z 0 + 1)) - ak_st b n (z 0 + 1)) := by
    rw [I1.1.2.2.2.2.2.2]
    exact hv _ (I1.1.2.1 _ I1.1.1.1).2.2
  have n36 := nu1 hin hd9 hl9
  rw [v10]
  refine ⟨fun q => badC (fun g => ?_), fun q99 => ?_⟩
  · have := ak_lsg.mp q
    omega
  have l99 : ak_nu b (ak_st b n (z 0 + 1)) (ak_nx b n (ak_st b n (z 0 + 1)) - ak_st b n (z 0 + 1)) ≤ 99 := by
    refine Int.not_lt.mp (fun q => ?_)
    have := ak_lsg.mpr q
    omega
  have l0 := hnu.1
  generalize hN : ak_nu b (ak_st b n (z 0 + 1)) (ak_nx b n (ak_st b n (z 0 + 1)) - ak_st b n (z 0 + 1)) = N at v10 n36 l99 l0
  have wN : am_w32 N = N := ak_w N (by omega)
  -- the node
  have I2 := ak_PI_node hu I1 (k := 36) (r := 0)
  have e2 : ak_ext u p (ak_zu z 0 (z 0 + 1)) (ak_zu (ak_zu z 0 (z 0 + 1)) 2 (z 2 + 1)) hc1 hm1 hc1 (ak_node hm1 p (z 2) 36 0) := ak_ext_node (show z 2 < 9000 by omega)
  have n2 : ak_nd (ak_node hm1 p (z 2) 36 0) (9000 * p + z 2) 36 (-1) (-1) (-1) (-1) (-1) 0 := ak_nd_new
  have I3 := ak_PI_cell hu I2 (q := 116) (k := 9000 * p + z 2) (v := N) (Or.inl (by decide))
  have eB3 := ak_ext_cell (ak_ext_trans eB1 e2) (q := 116) (k := 9000 * p + z 2) (v := N) (by decide) (by omega) (by omega)
  have n3 := ak_nd_116 (v := N) n2
  have hf2 := I2.2.2.1
  refine am_k33_37 hu (am_s10 hu (fun _ => lk_adv (dm := d + 20 * (20 - o) + 20) (ρ := ρ) hu I3 (show ak_kd b n (ak_st b n (z 0 + 1)) ≠ 0 by omega) (fun hc5 hm5 I5 fr5 frm5 e5 su5 rd5 => ?_)) (fun q => absurd q (by decide)))
  rw [v10, wN]
  have su5' : ak_st b n (z 0 + 1) + 1 ≤ ak_st b n (z 0 + 1 + 1) := su5
  have hf5 := I5.2.2.1
  have hst5 : ak_st b n (z 0 + 1 + 1) ≤ n := (ak_st_n I5).1
  have eB5 := ak_ext_trans eB3 e5
  have n5 := ak_nd_ext e5 (show z 2 < z 2 + 1 by omega) n3
  have run5 : ∀ (Q : Int → ak_S → Prop) (X : Nat → ak_S → Prop), ak_MV e 1 (d + 20 * (20 - o) + 23) ρ 215 [am_r 110] hm5 (fun h6 =>
            ak_MI e 1 (d + 20 * (20 - o) + 23) ρ 206 [am_r 110] h6 (fun v8 h7 =>
              (v8 = 0 →
                ak_MI e 1 (d + 20 * (20 - o) + 23) ρ 216 [am_r 110, am_i (h7.1 110 34), am_i (h7.1 110 35)] h7 (fun v10 h9 =>
                  ak_MV e 1 (d + 20 * (20 - o) + 23) ρ 205 [am_r 110] (am_up h9.1 117 (9000 * p + z 2) v10, h9.2) (fun h11 =>
                    ak_MI e 1 (d + 20 * (20 - o) + 23) ρ 232 [am_r 110] h11 (fun v13 h12 =>
                      (0 ≤ x2 → ak_W0 e 1 (d + 20 * (20 - o) + 23) 234 ρ 27 [some (am_r 110), none, some (am_i S), some (am_i ((9000 * p + z 2 : Nat) : Int)), some (am_i 1), none] [] (am_up (am_up h12.1 115 (9000 * p + z 2) v13) 119 x2.toNat ((9000 * p + z 2 : Nat) : Int), h12.2) (ak_qi Q (fun _ _ => False)))
                      ∧ (x2 < 0 → ak_W0 e 1 (d + 20 * (20 - o) + 23) 234 ρ 27 [some (am_r 110), none, some (am_i S), some (am_i ((9000 * p + z 2 : Nat) : Int)), some (am_i 1), none] [] (am_up (am_up h12.1 115 (9000 * p + z 2) v13) 116 S.toNat ((9000 * p + z 2 : Nat) : Int), h12.2) (ak_qi Q (fun _ _ => False)))) (fun _ _ => False)) (fun _ _ => False)) (fun _ _ => False))
              ∧ (v8 ≠ 0 →
                Q ((-1)) h7)) (fun _ _ => False)) (fun _ _ => False) → ak_MI e 1 (d + 20 * (20 - o) + 25) ρ 233 [am_r 110] hmB Q X := by
    intro Q X gg
    refine run Q X (rd1 _ _ (am_s206 (fun _ => ⟨fun q => absurd rfl q, fun _ => ⟨fun q => absurd (tk1.trans k3') q, fun _ => ⟨fun _ => ?_, fun q => absurd q (by omega)⟩⟩⟩) (fun q => absurd q (Int.not_le.mpr hf1))))
    refine am_k234_73 (am_s206 (fun _ => ⟨fun _ => am_s212 I1.2.1.1.1 hp2 I1.2.2.2.2.2.2.2.2.2.1 (show z 2 < 9000 by omega) ?_, fun q => absurd rfl q⟩) (fun q => absurd q (Int.not_le.mpr hf1)))
    show (0 ≤ ((9000 * p + z 2 : Nat) : Int) ∧ ((9000 * p + z 2 : Nat) : Int) < 18000) ∧ ak_MV e 1 (d + 20 * (20 - o) + 23) ρ 205 [am_r 110] (am_up (ak_node hm1 p (z 2) 36 0).1 116 ((9000 * p + z 2 : Nat) : Int).toNat ((ak_node hm1 p (z 2) 36 0).1 110 36), (ak_node hm1 p (z 2) 36 0).2) _ _
    have e36 : (ak_node hm1 p (z 2) 36 0).1 110 36 = N := (ak_node_at (by omega) (by omega)).trans n36
    rw [ak_natn, e36]
    refine ⟨bvy, rd5 _ _ (ak_MV_imp gg (fun h6 g2 => ak_MI_imp g2 (fun v8 h7 g3 => ⟨fun q => ak_MI_imp (g3.1 q) (fun v10 h9 g4 => ⟨bvy, ak_MV_imp g4 (fun h11 g5 => ak_MI_imp g5 (fun v13 h12 g6 => ⟨bvy, fun q => ⟨by omega, g6.1 q⟩, fun q => ⟨bS.1, g6.2 q⟩⟩) (fun _ _ q => q)) (fun _ _ q => q)⟩) (fun _ _ q => q), g3.2⟩) (fun _ _ q => q)) (fun _ _ q => q))⟩
  refine lk_may2 (dm := d + 20 * (20 - o) + 19) (ρ := ρ) hu I5 (show z 2 + 1 ≤ 6130 by omega) (fun hk2 hD wd vw my => ?_) (fun wr my => ?_)
  · rw [vw]
    have hk2' : ak_kd b n (ak_st b n (z 0 + 1 + 1)) = 2 := hk2
    have I6 := ak_PI_dc hu I5 hD wd
    have e6 := ak_ext_dc (p := p) (z := ak_zu (ak_zu (ak_zu z 0 (z 0 + 1)) 2 (z 2 + 1)) 0 (z 0 + 1 + 1)) (hc := hc5) (hm := hm5) (lv := lv) (k := D lv) (v := ak_pk b (ak_st b n (z 0 + 1 + 1)) (ak_nx b n (ak_st b n (z 0 + 1 + 1)) - ak_st b n (z 0 + 1 + 1))) (i := ((ak_st b n (z 0 + 1 + 1) : Nat) : Int)) (y := ((ak_nx b n (ak_st b n (z 0 + 1 + 1)) - ak_st b n (z 0 + 1 + 1) : Nat) : Int)) hu
    have n6' := ak_nd_ext e6 (show z 2 < z 2 + 1 by omega) n5
    have eB6 := ak_ext_trans eB5 e6
    have I7 := ak_PI_no hu I6 (k := N) (w := (D lv : Int)) (s := (z 1 : Int)) (g := (g : Int))
    have eB7 := ak_ext_no hu eB6 (k := N) (wd := (D lv : Int)) (s := (z 1 : Int)) (g := g) hgB hgB2
    have I8 := ak_PI_cell hu I7 (q := 117) (k := 9000 * p + z 2) (v := (D lv : Int)) (Or.inl (by decide))
    have eB8 := ak_ext_cell eB7 (q := 117) (k := 9000 * p + z 2) (v := (D lv : Int)) (by decide) (by omega) (by omega)
    have n8 := ak_nd_117 (v := (D lv : Int)) n6'
    have D12 : D lv < 12 := hD
    have z41 : z 4 < 1000 := by omega
    refine am_s17 hu I5.2.2.2.2.1 hD (am_s6 hu I6.2.2.2.2.2.2.2.2.1 I6.2.2.2.2.2.2.2.2.2.2.2.1 z41 (lk_adv (dm := d + 20 * (20 - o) + 20) (ρ := ρ) hu I8 (show ak_kd b n (ak_st b n (z 0 + 1 + 1)) ≠ 0 by omega) (fun hc9 hm9 I9 fr9 frm9 e9 su9 rd9 => ?_)))
    have su9' : ak_st b n (z 0 + 1 + 1) + 1 ≤ ak_st b n (z 0 + 1 + 1 + 1) := su9
    have eB9 := ak_ext_trans eB8 e9
    have n9 := ak_nd_ext e9 (show z 2 < z 2 + 1 by omega) n8
    have run9 : ∀ (Q : Int → ak_S → Prop) (X : Nat → ak_S → Prop), ak_MI e 1 (d + 20 * (20 - o) + 23) ρ 232 [am_r 110] hm9 (fun v13 h12 =>
                      (0 ≤ x2 → ak_W0 e 1 (d + 20 * (20 - o) + 23) 234 ρ 27 [some (am_r 110), none, some (am_i S), some (am_i ((9000 * p + z 2 : Nat) : Int)), some (am_i 1), none] [] (am_up (am_up h12.1 115 (9000 * p + z 2) v13) 119 x2.toNat ((9000 * p + z 2 : Nat) : Int), h12.2) (ak_qi Q (fun _ _ => False)))
                      ∧ (x2 < 0 → ak_W0 e 1 (d + 20 * (20 - o) + 23) 234 ρ 27 [some (am_r 110), none, some (am_i S), some (am_i ((9000 * p + z 2 : Nat) : Int)), some (am_i 1), none] [] (am_up (am_up h12.1 115 (9000 * p + z 2) v13) 116 S.toNat ((9000 * p + z 2 : Nat) : Int), h12.2) (ak_qi Q (fun _ _ => False)))) (fun _ _ => False) → ak_MI e 1 (d + 20 * (20 - o) + 25) ρ 233 [am_r 110] hmB Q X := by
      intro Q X gg
      refine run5 Q X (my _ _ (am_s206 (fun _ => ⟨fun _ => ?_, fun q => absurd rfl q⟩) (fun q => absurd q (Int.not_le.mpr hf5))))
      rw [I5.2.1.2.2.2.1, I5.2.1.2.2.2.2.1]
      exact am_s216 I5.2.2.2.2.1 hD (rd9 _ _ gg)
    refine ak_MV_deep (Nat.le_refl _) (lk_bcell (q := 115) (y := z 2) (dd := d + 20 * (20 - o) + 21) (ρ := ρ) hu (by decide) (by omega) hS I9 (show z 2 + 1 ≤ 6130 by omega) (show 2 * z 1 ≤ 3 * ak_st b n (z 0 + 1 + 1 + 1) + z 5 + 10 * o + 13 ∧ z 2 + 1 ≤ ak_st b n (z 0 + 1 + 1 + 1) + 2 * o + 3 ∧ 13 * z 3 ≤ ak_st b n (z 0 + 1 + 1 + 1) + 13 * o + 14 ∧ 6 * (z 4 + 1) ≤ ak_st b n (z 0 + 1 + 1 + 1) + 1 by omega) (show m ≤ z 0 + 1 + 1 + 1 + t by omega) (show z 2 < z 2 + 1 by omega) (fun D10 z10 x10 hc10 hm10 I10 l10 r10 e10 d10 s10 go10 => ?_) (fun hcx x10 hmx wr go10 => ?_))
    · have le10 := ak_ext_le e10
      have le101 : z 1 ≤ z10 1 := le10.2.1
      have le102 : z 2 + 1 ≤ z10 2 := le10.2.2.1
      have le103 : z 3 ≤ z10 3 := le10.2.2.2.1
      have le104 : z 4 + 1 ≤ z10 4 := le10.2.2.2.2.1
      have le105 : z 5 ≤ z10 5 := le10.2.2.2.2.2.1
      have l10' : z 0 + 1 + 1 + 1 < z10 0 := l10
      have r10' : 2 * z10 1 + 6 + 3 * ak_st b n (z 0 + 1 + 1 + 1) + z 5 ≤ 2 * z 1 + 3 * ak_st b n (z10 0) + z10 5 ∧ z10 2 + 2 + ak_st b n (z 0 + 1 + 1 + 1) ≤ z 2 + 1 + ak_st b n (z10 0) ∧ 13 * z10 3 + 2 + ak_st b n (z 0 + 1 + 1 + 1) ≤ 13 * z 3 + ak_st b n (z10 0) ∧ 6 * z10 4 + 2 + ak_st b n (z 0 + 1 + 1 + 1) ≤ 6 * (z 4 + 1) + ak_st b n (z10 0) := r10
      have hs10 := (ak_st_n I10).1
      have z510 := (ak_st_n I10).2.2.2
      have n10 := ak_nd_115 (v := x10) (ak_nd_ext e10 (show z 2 < z 2 + 1 by omega) n9)
      have eB10 := ak_ext_cell (ak_ext_trans eB9 e10) (q := 115) (k := 9000 * p + z 2) (v := x10) (by decide) (by omega) (by omega)
      have IP := ak_PI_put hu I10 (r := 37) (x := (g : Int))
      have eP := ak_ext_put (p := p) (z := z10) (hc := hc10) (hm := (am_up hm10.1 115 (9000 * p + z 2) x10, hm10.2)) (r := 37) (x := (g : Int)) hu
      have nF := ak_nd_ext eP (show z 2 < z10 2 by omega) n10
      have sF := ak_sub_ext s10 eP
      have o7 : (ak_newon (ak_dcC hc5 lv (D lv) (ak_pk b (ak_st b n (z 0 + 1 + 1)) (ak_nx b n (ak_st b n (z 0 + 1 + 1)) - ak_st b n (z 0 + 1 + 1)))) u (z 4) N (D lv : Int) (z 1 : Int) (g : Int)).1 (ak_T u + 7) (z 4) = N ∧ (ak_newon (ak_dcC hc5 lv (D lv) (ak_pk b (ak_st b n (z 0 + 1 + 1)) (ak_nx b n (ak_st b n (z 0 + 1 + 1)) - ak_st b n (z 0 + 1 + 1)))) u (z 4) N (D lv : Int) (z 1 : Int) (g : Int)).1 (ak_T u + 8) (z 4) = (D lv : Int) ∧
          (ak_newon (ak_dcC hc5 lv (D lv) (ak_pk b (ak_st b n (z 0 + 1 + 1)) (ak_nx b n (ak_st b n (z 0 + 1 + 1)) - ak_st b n (z 0 + 1 + 1)))) u (z 4) N (D lv : Int) (z 1 : Int) (g : Int)).1 (ak_T u + 9) (z 4) = (z 1 : Int) ∧ (ak_newon (ak_dcC hc5 lv (D lv) (ak_pk b (ak_st b n (z 0 + 1 + 1)) (ak_nx b n (ak_st b n (z 0 + 1 + 1)) - ak_st b n (z 0 + 1 + 1)))) u (z 4) N (D lv : Int) (z 1 : Int) (g : Int)).1 (ak_T u + 10) (z 4) = (g : Int) := by
        refine ⟨?_, ?_, ?_, ?_⟩ <;> simp [ak_newon, am_up]
      have e9P := ak_ext_trans e9 (ak_ext_trans e10 (ak_ext_refl (z := z10)))
      obtain ⟨p7, p8, p9, p10⟩ := (ak_ext_trans (ak_ext_trans e9 e10) (ak_ext_put (p := p) (z := z10) (hc := hc10) (hm := hm10) (r := 37) (x := (g : Int)) hu)).2.1.2.2.1 (z 4) (Nat.zero_le _) (show z 4 < z 4 + 1 by omega)
      have md : ∀ (za : Nat → Nat), g < za 3 → ak_mid u p za z hc hm (ak_zu z10 1 (z10 1 + 1)) (ak_put hc10 u (z10 1) 37 (g : Int)) (am_up hm10.1 115 (9000 * p + z 2) x10, hm10.2) := by
        intro za hza
        have q3 := ak_mid_cell (ak_mid_ext (ak_mid_ext (ak_mid_refl (u := u) (p := p) (za := za) (zb := z) (hcb := hc) (hmb := hm)) e1) e2) (q := 116) (k := 9000 * p + z 2) (v := N) (by decide) (Or.inr (Or.inl (Nat.le_refl _)))
        have q8 := ak_mid_cell (ak_mid_no (ak_mid_ext (ak_mid_ext q3 e5) e6) (k := N) (wd := (D lv : Int)) (s := (z 1 : Int)) (g := g) hza) (q := 117) (k := 9000 * p + z 2) (v := (D lv : Int)) (by decide) (Or.inr (Or.inl (Nat.le_refl _)))
        exact ak_mid_ext (ak_mid_cell (ak_mid_ext (ak_mid_ext q8 e9) e10) (q := 115) (k := 9000 * p + z 2) (v := x10) (by decide) (Or.inr (Or.inl (Nat.le_refl _)))) eP
      refine am_s3 hu I10.2.2.2.2.2.2.2.2.1 (show z10 1 < 9600 by omega) (ok D10 _ _ _ IP (show z 0 < z10 0 by omega) ?_ (ak_ext_trans eB10 eP) (fun s hs => (d10 s hs).trans (if_neg (show s ≠ lv by omega))) md ?_ ?_ ?_ (show z 1 < z10 1 + 1 by omega) (show z 2 < z10 2 by omega) le103 (show z 4 < z10 4 by omega) le105 nF.2.2.2.2.2.1 ?_ ?_)
      · show 2 * (z10 1 + 1) + 4 + 3 * ak_st b n (z 0) + z 5 ≤ 2 * z 1 + 3 * ak_st b n (z10 0) + z10 5 ∧ z10 2 + ak_st b n (z 0) ≤ z 2 + ak_st b n (z10 0) ∧ 13 * z10 3 + 6 + ak_st b n (z 0) ≤ 13 * z 3 + ak_st b n (z10 0) ∧ 6 * z10 4 + ak_st b n (z 0) ≤ 6 * z 4 + ak_st b n (z10 0)
        omega
      · intro P za zb hza hzb s
        have q3 := ak_sub_cell (ak_sub_ext (ak_sub_ext s e1) e2) (q := 116) (j := 9000 * p + z 2) (v := N) (by decide) (Or.inr (Or.inl (by omega)))
        have q8 := ak_sub_cell (ak_sub_no (ak_sub_ext (ak_sub_ext q3 e5) e6) (kk := N) (wd := (D lv : Int)) (ss := (z 1 : Int)) (g := g) hza) (q := 117) (j := 9000 * p + z 2) (v := (D lv : Int)) (by decide) (Or.inr (Or.inl (by omega)))
        exact ak_sub_ext (ak_sub_cell (ak_sub_ext (ak_sub_ext q8 e9) e10) (q := 115) (j := 9000 * p + z 2) (v := x10) (by decide) (Or.inr (Or.inl (by omega)))) eP
      · intro zz cA iA G h1 h2 h3 h4
        have G6 := ak_GH_ext (ak_GH_ext (ak_GH_ext G e1 h1 h2 h3 h4) e5 (by exact h1) (by exact h2) (by exact h3) (by exact h4)) e6 (by exact h1) (by exact h2) (by exact h3) (by exact h4)
        have G7 := ak_GH_no G6 (i := z 4) (kk := N) (wd := (D lv : Int)) (ss := (z 1 : Int)) (g := (g : Int)) h4
        exact ak_GH_ext (ak_GH_ext (ak_GH_ext G7 e9 (by exact h1) (by exact h2) (by exact h3) (show iA ≤ z 4 + 1 by omega)) e10 (by exact h1) (by exact h2) (by exact h3) (show iA ≤ z 4 + 1 by omega)) eP (by omega) (by omega) (by omega) (by omega)
      · intro y k a c r s x w hy nd
        have q3 := ak_nd_out (q := 116) (j := 9000 * p + z 2) (v := N) (ak_nd_ext e2 (show y < z 2 by omega) (ak_nd_ext e1 hy nd)) (by omega)
        have q8 := ak_nd_out (q := 117) (j := 9000 * p + z 2) (v := (D lv : Int)) (ak_nd_ext e6 (show y < z 2 + 1 by omega) (ak_nd_ext e5 (show y < z 2 + 1 by omega) q3)) (by omega)
        exact ak_nd_ext eP (show y < z10 2 by omega) (ak_nd_out (q := 115) (j := 9000 * p + z 2) (v := x10) (ak_nd_ext e10 (show y < z 2 + 1 by omega) (ak_nd_ext e9 (show y < z 2 + 1 by omega) q8)) (by omega))
      · intro C M ft Gd i c hG hG2 hi t3
        have hi' : z10 2 - z 2 + 21 ≤ i + o := hi
        have hlt := ak_lt_lt w
        have tB := ak_sub_T sF ft (show z 1 ≤ z 1 ∧ z 2 ≤ z 2 + 1 ∧ z 3 ≤ z 3 ∧ z 4 ≤ z 4 + 1 ∧ z 5 ≤ z 5 by omega) (show z 4 ≤ z10 4 by omega) (Or.inl (show ((9000 * p + z 2 : Nat) : Int) < ((9000 * p + (z 2 + 1) : Nat) : Int) by omega))
        obtain ⟨m1, m2, m3, m4, m5, m6⟩ := ak_nd_M nF ft (Nat.le_refl _) (show z 2 < z10 2 by omega)
        have c1 := ft.1.1 (z10 1) le101 (Nat.lt_succ_self _)
        obtain ⟨q7, q8, q9, q10⟩ := ft.1.2.2.1 (z 4) (Nat.le_refl _) (show z 4 < z10 4 by omega)
        have tB' : ak_X2 C M (ak_T u) p (o + 1) (z10 2 - (z 2 + 1)) x10 (ak_lt Mt lv) (z 1) (z10 1) := tB
        have tL : ak_T3 C M (ak_T u) p 3 (M 119 (9000 * p + z 2)) g (ak_lt Mt lv + 1000 * Gd + 32000 * i) (z 4 + 1) (z10 1 + 1) c := by
          refine ak_T3_low t3 (show z 4 + 1 ≤ z10 4 by omega) (fun j h1 h2 => ?_)
          have h2' : j < z10 4 := h2
          have h3 := e10.2.2.1 j h1 h2'
          have h3' : (z 3 : Int) ≤ hc10.1 (ak_T u + 10) j := h3.1
          rw [(ft.1.2.2.1 j (by omega) h2').2.2.2]
          have h4 : (ak_put hc10 u (z10 1) 37 (g : Int)).1 (ak_T u + 10) j = hc10.1 (ak_T u + 10) j := by simp [ak_put, am_up]
          rw [h4]
          omega
        rw [← m2] at tB'
        refine ak_T3_fold (Or.inr ⟨9000 * p + z 2, z 4, z10 1, rfl, Nat.le_refl _, ?_, q10.trans (p10.trans o7.2.2.2), fun j h1 h2 => absurd h2 (by omega), (q7.trans (p7.trans o7.1)).trans m3.symm, (q8.trans (p8.trans o7.2.1)).trans m4.symm, by rw [m4]; omega, by rw [m4]; omega, q9.trans (p9.trans o7.2.2.1), by rw [show (ak_lt Mt lv + 1000 * Gd + 32000 * i) % 32000 = ak_lt Mt lv + 1000 * Gd by omega, show (ak_lt Mt lv + 1000 * Gd + 32000 * i) / 32000 = i by omega]; exact tB' Gd i (by omega) hG2 (by omega), c1.1.trans ak_put_2, c1.2.trans ak_put_3, tL⟩)
        have h4 : (z10 4 : Int) ≤ C (ak_T u + 1) 11 := ft.2.1.1
        omega
      · intro Q X gg
        exact run9 Q X (go10 _ _ gg)
    · have wr1 : ak_WR u p hcB hmB hcx (am_up hmx.1 115 (9000 * p + z 2) x10, hmx.2) := ak_WR_ext wB I9 (Nat.le_refl _) eB9 wr
      rcases bx with bx | bx
      · have wr2 := ak_WR_cell wr1 (q := 116) (k := S.toNat) (v := ((9000 * p + z 2 : Nat) : Int)) (by decide) (by omega) (by omega)
        exact ⟨rfl, S, _, ak_WR_s wr2, fun Q X gg => run9 Q X (go10 _ _ ⟨fun q => absurd q (by omega), fun _ => am_k234_27 (am_w208 wr2.1 ⟨fun _ => am_w208 wr2.1 ⟨fun _ => ⟨fun _ => gg, fun q => absurd q (by decide)⟩, fun q => absurd rfl q⟩, fun q => absurd rfl q⟩)⟩)⟩
      · have wr2 := ak_WR_cell wr1 (q := 119) (k := x2.toNat) (v := ((9000 * p + z 2 : Nat) : Int)) (by decide) (by omega) (by omega)
        exact ⟨rfl, S, _, ak_WR_s wr2, fun Q X gg => run9 Q X (go10 _ _ ⟨fun _ => am_k234_27 (am_w208 wr2.1 ⟨fun _ => am_w208 wr2.1 ⟨fun _ => ⟨fun _ => gg, fun q => absurd q (by decide)⟩, fun q => absurd rfl q⟩, fun q => absurd rfl q⟩), fun q => absurd q (by omega)⟩)⟩
  · exact ⟨rfl, -1, _, ak_WR_s (ak_WR_ext wB I5 (Nat.le_refl _) eB5 wr), fun Q X gg => run5 Q X (my _ _ (am_w206 wr.1 ⟨fun q => absurd q (by decide), fun _ => gg⟩))⟩
end GD1
