/-! minus before a chain -/
section LKUN
variable {e : ak_X3} {d u p : Nat} {b : Nat → Int} {n m lv o Mt : Nat} {D : Nat → Nat} {z z1 : Nat → Nat} {hc hm hc1 hm1 : ak_S} {ρ : List Nat}
def ak_XP0 (u p : Nat) (b : Nat → Int) (n m lv : Nat) (D : Nat → Nat) (o Mt : Nat) (z : Nat → Nat) (hc hm : ak_S) (z' : Nat → Nat) (x : Int) (hc' hm' : ak_S) : Prop :=
  ak_PI u p b n m lv D o Mt z' hc' hm' ∧ z 0 < z' 0 ∧ ak_ext u p z z' hc hm hc' hm' ∧ ∀ C M, ak_fut u p z z' (-1) hc'.1 hm'.1 C M → ak_X0 C M (ak_T u) p (ak_hx 226 o) (z' 2 - z 2) x (ak_lt Mt lv) (z 1) (z' 1)
theorem lk_neg (hu : u = 0 ∨ u = 1) {x1 : Int} (P1 : ak_XP0 u p b n m lv D o Mt z hc hm z1 x1 hc1 hm1) (h2 : z1 2 < 9000) :
    ak_XP0 u p b n m lv D o Mt z hc hm (ak_zu (ak_zu z1 1 (z1 1 + 1)) 2 (z1 2 + 1)) ((9000 * p + z1 2 : Nat) : Int) (ak_put hc1 u (z1 1) 8 0) (am_up (ak_node hm1 p (z1 2) 12 0).1 115 (9000 * p + z1 2) x1, (ak_node hm1 p (z1 2) 12 0).2) := by
  obtain ⟨I1, l1, e1, T1⟩ := P1
  have le1 := ak_ext_le e1
  have wn := ak_PI_cell hu (ak_PI_node hu (ak_PI_put hu I1 (r := 8) (x := 0)) (k := 12) (r := 0)) (q := 115) (k := 9000 * p + z1 2) (v := x1) (Or.inl (by decide))
  have en : ak_ext u p z1 (ak_zu (ak_zu z1 1 (z1 1 + 1)) 2 (z1 2 + 1)) hc1 hm1 (ak_put hc1 u (z1 1) 8 0) (am_up (ak_node hm1 p (z1 2) 12 0).1 115 (9000 * p + z1 2) x1, (ak_node hm1 p (z1 2) 12 0).2) :=
    ak_ext_cell (ak_ext_trans (ak_ext_put hu) (ak_ext_node (show z1 2 < 9000 from h2))) (by decide) (Nat.le_refl _) (by omega)
  have e114 : am_up (ak_node hm1 p (z1 2) 12 0).1 115 (9000 * p + z1 2) x1 114 (9000 * p + z1 2) = 12 := by simp [ak_node, am_up]
  have e115 : am_up (ak_node hm1 p (z1 2) 12 0).1 115 (9000 * p + z1 2) x1 115 (9000 * p + z1 2) = x1 := by simp [am_up]
  have o1 : (ak_put hc1 u (z1 1) 8 0).1 (ak_T u + 2) (z1 1) = 8 := by simp [ak_put, am_up]
  refine ⟨wn, l1, ak_ext_trans e1 en, fun C2 M2 ft => ?_⟩
  have f1 := ak_fut_fst (y := -1) ft e1 en (Or.inl rfl)
  obtain ⟨⟨a1, a2, a3, a4, a5⟩, -, -⟩ := ft
  have b1 := a1 (z1 1) le1.2.1 (Nat.lt_succ_self _)
  have c5 : ∀ q, 114 ≤ q → q ≤ 115 → M2 q (9000 * p + z1 2) = am_up (ak_node hm1 p (z1 2) 12 0).1 115 (9000 * p + z1 2) x1 q (9000 * p + z1 2) := fun q q1 q2 => a5 q _ q1 (by omega) (by omega) (by show 9000 * p + z1 2 < 9000 * p + (z1 2 + 1); omega) (by omega)
  intro k i hk hi
  have hi' : z1 2 + 1 - z 2 ≤ i := hi
  have hx := ak_hx_pos (g := 226) (o := o)
  refine ak_T3_fold ⟨_, rfl, ⟨by omega, by omega⟩, Or.inr (Or.inr (Or.inr (Or.inr (Or.inr (Or.inr (Or.inr (Or.inr (Or.inr (Or.inr (Or.inr (Or.inl ⟨(c5 114 (by decide) (by decide)).trans e114, z1 1, z1 2 - z 2, ⟨by omega, ?_⟩, b1.1.trans o1, rfl⟩)))))))))))⟩
  rw [(c5 115 (by decide) (by decide)).trans e115]
  exact T1 C2 M2 f1 k _ hk (Nat.le_refl _)
theorem lk_unary {ρ0 ρ3 ρ4 t : Nat} (hu : u = 0 ∨ u = 1) (hE : ak_EX e u p b n m ρ0 ρ3 ρ4 ρ 39 227 9 9 t) : ak_EX e u p b n m ρ0 ρ3 ρ4 ρ 38 226 10 10 t := by
  intro lv D o Mt z hc hm d w pt ht
  -- the signs put behind
  have back : ∀ (c j k : Nat) (z1 : Nat → Nat) (x1 : Int) (hc1 hm1 : ak_S), j + c = k → k ≤ 6000 → ak_XP0 u p b n m lv D o Mt z hc hm z1 x1 hc1 hm1 → (2 * z1 1 + 1 + 2 * c + 3 * ak_st b n (z 0) + z 5 ≤ 2 * z 1 + 3 * ak_st b n (z1 0) + z1 5 ∧ z1 2 + c + ak_st b n (z 0) ≤ z 2 + ak_st b n (z1 0) ∧ 13 * z1 3 + ak_st b n (z 0) ≤ 13 * z 3 + ak_st b n (z1 0) ∧ 6 * z1 4 + ak_st b n (z 0) ≤ 6 * z 4 + ak_st b n (z1 0)) →
      (∀ (Q : Int → ak_S → Prop) (X : Nat → ak_S → Prop), ak_W0 e 1 (d + 20 * (20 - o) + 9) 226 ρ 28 [some (am_r 110), some (am_i (k : Int)), some (am_i x1), some (am_i (j : Int)), none] [] hm1 (ak_qi Q X) → ak_MI e 1 (d + 20 * (20 - o) + 10) ρ 226 [am_r 110] hm Q X) →
      ak_W0 e 0 (d + 20 * (20 - o) + 9) 38 [ρ0, ak_T u, ak_T u + 1, ρ3, ρ4] 41 [some (am_r 2), none, some (am_i (k : Int)), some (am_i (j : Int))] [] hc1 (ak_qv (ak_XQ e ρ (d + 20 * (20 - o) + 10) 226 u p b n m lv D o Mt z hc hm) (ak_XX e ρ (d + 20 * (20 - o) + 10) 226 u p hc hm)) := by
    intro c
    induction c with
    | zero =>
      intro j k z1 x1 hc1 hm1 hjk hk6 P1 r1 G
      obtain ⟨I1, l1, e1, T1⟩ := P1
      refine am_k38_41 hu ⟨fun _ => ⟨z1, x1, hm1, ⟨I1, l1, ?_, e1, T1⟩, fun Q X q => G Q X (am_k226_28 ⟨fun _ => q, fun q2 => absurd q2 (by omega)⟩)⟩, fun q2 => absurd q2 (by omega)⟩
      unfold ak_REL
      omega
    | succ c ih =>
      intro j k z1 x1 hc1 hm1 hjk hk6 P1 r1 G
      have I1 := P1.1
      have hs := ak_st_n I1
      have rm : z1 1 < 9200 ∧ z1 2 < 6060 := by
        unfold ak_POT at pt
        omega
      refine am_k38_41 hu ⟨fun q2 => absurd q2 (by omega), fun _ => am_s3 hu I1.2.2.2.2.2.2.2.2.1 (by omega) ?_⟩
      rw [ak_wj (show j < 1000000 by omega)]
      refine ih (j + 1) k _ _ _ _ (by omega) hk6 (lk_neg hu P1 (by omega)) ?_ (fun Q X g => G Q X (am_k226_28 ⟨fun q2 => absurd q2 (by omega), fun _ => am_s206 (fun _ => ⟨fun q => absurd rfl q, fun _ => ?_⟩) (fun q => absurd q (by have := I1.2.2.1; omega))⟩))
      · show 2 * (z1 1 + 1) + 1 + 2 * c + 3 * ak_st b n (z 0) + z 5 ≤ 2 * z 1 + 3 * ak_st b n (z1 0) + z1 5 ∧ z1 2 + 1 + c + ak_st b n (z 0) ≤ z 2 + ak_st b n (z1 0) ∧ 13 * z1 3 + ak_st b n (z 0) ≤ 13 * z 3 + ak_st b n (z1 0) ∧ 6 * z1 4 + ak_st b n (z 0) ≤ 6 * z 4 + ak_st b n (z1 0)
        omega
      · refine am_s212 I1.2.1.1.1 I1.2.1.1.2.1 I1.2.2.2.2.2.2.2.2.2.1 (by omega) ?_
        rw [ak_natn, ak_wj (show j < 1000000 by omega)]
        exact ⟨by have := I1.2.1.1.2.1; omega, g⟩
  -- the chain between
  have chain : ∀ (k : Nat) (z2 : Nat → Nat) (hc2 hm2 : ak_S), ak_PI u p b n m lv D o Mt z2 hc2 hm2 → ak_ext u p z z2 hc hm hc2 hm2 → z2 1 = z 1 → z2 2 = z 2 → z2 3 = z 3 → z2 4 = z 4 → z2 5 = z 5 → ak_st b n (z 0) + k ≤ ak_st b n (z2 0) → k ≤ 6000 → k ≤ z2 0 →
      (∀ (Q : Int → ak_S → Prop) (X : Nat → ak_S → Prop), ak_MI e 1 (d + 20 * (20 - o) + 9) ρ 227 [am_r 110] hm2 (fun v4 h3 => ak_W0 e 1 (d + 20 * (20 - o) + 9) 226 ρ 28 [some (am_r 110), some (am_i (k : Int)), some (am_i v4), some (am_i 0), none] [] h3 (ak_qi Q X)) (fun _ _ => False) → ak_MI e 1 (d + 20 * (20 - o) + 10) ρ 226 [am_r 110] hm Q X) →
      ak_MV e 0 (d + 20 * (20 - o) + 9) [ρ0, ak_T u, ak_T u + 1, ρ3, ρ4] 39 [am_r 2, am_i (o : Int)] hc2 (fun h1 => ak_W0 e 0 (d + 20 * (20 - o) + 9) 38 [ρ0, ak_T u, ak_T u + 1, ρ3, ρ4] 41 [some (am_r 2), none, some (am_i (k : Int)), some (am_i 0)] [] h1 (ak_qv (ak_XQ e ρ (d + 20 * (20 - o) + 10) 226 u p b n m lv D o Mt z hc hm) (ak_XX e ρ (d + 20 * (20 - o) + 10) 226 u p hc hm)))
        (ak_XX e ρ (d + 20 * (20 - o) + 10) 226 u p hc hm) := by
    intro k z2 hc2 hm2 I2 e2 s1 s2 s3 s4 s5 hst hk6 hk G
    have le2 := ak_ext_le e2
    have pt2 : ak_POT b n o 2 z2 := by
      unfold ak_POT at pt ⊢
      omega
    refine ak_MV_imp (hE lv D o Mt z2 hc2 hm2 d I2 pt2 (by omega)) (fun hc3 R => ?_) (fun ex hcx R => ?_)
    · obtain ⟨z3, x3, hm3, ⟨I3, l3, r3, e3, T3⟩, go3⟩ := R
      refine back k 0 k z3 x3 hc3 hm3 (by omega) hk6 ⟨I3, by omega, ak_ext_trans e2 e3, fun C M ft k i hk hi => ?_⟩ ?_ (fun Q X g => G Q X (go3 _ _ g))
      · rw [← s1]
        exact T3 C M (ak_fut_snd ft e2 e3 (Or.inl rfl)) k i hk (by rw [s2]; exact hi)
      · unfold ak_REL at r3
        omega
    · obtain ⟨hx, x3, hmx, wr, go3⟩ := R
      refine ⟨hx, x3, hmx, ak_WR_ext w I2 (Nat.le_refl _) e2 wr, fun Q X q => G Q X (go3 _ _ (am_k226_28 ⟨fun _ => q, fun _ => am_w206 wr.1 ⟨fun _ => q, fun q => absurd q (by decide)⟩⟩))⟩
  -- the signs read
  have front : ∀ (c k : Nat) (z2 : Nat → Nat) (hc2 hm2 : ak_S), ak_PI u p b n m lv D o Mt z2 hc2 hm2 → ak_ext u p z z2 hc hm hc2 hm2 → z2 1 = z 1 → z2 2 = z 2 → z2 3 = z 3 → z2 4 = z 4 → z2 5 = z 5 → ak_st b n (z 0) + k ≤ ak_st b n (z2 0) → k ≤ z2 0 → m ≤ z2 0 + c →
      (∀ (Q : Int → ak_S → Prop) (X : Nat → ak_S → Prop), ak_W0 e 1 (d + 20 * (20 - o) + 9) 226 ρ 2 [some (am_r 110), some (am_i (k : Int)), none, none, none] [] hm2 (ak_qi Q X) → ak_MI e 1 (d + 20 * (20 - o) + 10) ρ 226 [am_r 110] hm Q X) →
      ak_W0 e 0 (d + 20 * (20 - o) + 9) 38 [ρ0, ak_T u, ak_T u + 1, ρ3, ρ4] 2 [some (am_r 2), some (am_i (o : Int)), some (am_i (k : Int)), none] [] hc2 (ak_qv (ak_XQ e ρ (d + 20 * (20 - o) + 10) 226 u p b n m lv D o Mt z hc hm) (ak_XX e ρ (d + 20 * (20 - o) + 10) 226 u p hc hm)) := by
    intro c
    induction c with
    | zero =>
      intro k z2 hc2 hm2 I2 e2 s1 s2 s3 s4 s5 hst hk hm0 G
      have hkC := I2.1.2.2.2.2.1
      have tk := I2.2.1.2.2.1
      have h1m := I2.1.1.1
      have h6 := I2.1.1.2.1
      have h0 : ak_kd b n (ak_st b n (z2 0)) = 0 := by
        have e0 : z2 0 = m := by omega
        rw [e0, I2.1.1.2.2.1]
        unfold ak_kd
        rw [if_pos (by omega)]
      have run := chain k z2 hc2 hm2 I2 e2 s1 s2 s3 s4 s5 hst (by omega) hk (fun Q X g => G Q X (am_k226_2 (am_s208 (fun _ q => absurd (q.symm.trans (tk.trans h0)) (by decide)) (fun _ => ⟨fun _ => g, fun q => absurd rfl q⟩))))
      refine am_k38_2 hu ⟨fun _ => run, fun _ => ?_⟩
      rw [hkC, h0]
      exact ⟨fun _ => run, fun q => absurd q (by decide)⟩
    | succ c ih =>
      intro k z2 hc2 hm2 I2 e2 s1 s2 s3 s4 s5 hst hk hm0 G
      have hkC := I2.1.2.2.2.2.1
      have tk := I2.2.1.2.2.1
      have h1m := I2.1.1.1
      have h6 := I2.1.1.2.1
      have hsn := (ak_st_n I2).1
      by_cases h45 : ak_kd b n (ak_st b n (z2 0)) = 45
      · have ham : z2 0 < m := ak_cc_lt I2.1 (by rw [h45]; decide)
        obtain ⟨hm3, ⟨M3, fr'⟩, rd⟩ := ak_MV_get (e := e) (r := 1) (d := d + 20 * (20 - o) + 9) (ρ := ρ) (am_rd (d := d + 20 * (20 - o) + 6) (X := ak_F) I2.2.1 hsn (fun h' c f => (⟨c, f⟩ : ak_cm b n p h' (z2 0 + 1) ∧ ak_rfr hm2 h')))
        refine am_k38_2 hu ⟨fun q => absurd q (by omega), fun _ => ?_⟩
        rw [hkC, h45]
        refine ⟨fun q => absurd rfl q, fun _ => am_adv I2.1 ham (fun hc3 C3 fr => ?_)⟩
        rw [ak_wj (show k < 1000000 by omega)]
        have su := ak_st_up I2.1 ham
        refine ih (k + 1) _ hc3 hm3 (ak_PI_step hu I2 C3 fr M3 fr') (ak_ext_trans e2 (ak_ext_step hu fr fr')) s1 s2 s3 s4 s5 (show ak_st b n (z 0) + (k + 1) ≤ ak_st b n (z2 0 + 1) by omega) (show k + 1 ≤ z2 0 + 1 by omega) (show m ≤ z2 0 + 1 + c by omega) (fun Q X g => G Q X (am_k226_2 (am_s208 (fun _ _ => ⟨fun q => absurd q (by decide), fun _ => rd _ _ ?_⟩) (fun q => absurd ⟨I2.2.2.1, tk.trans h45⟩ q))))
        rw [ak_wj (show k < 1000000 by omega)]
        exact g
      · have run := chain k z2 hc2 hm2 I2 e2 s1 s2 s3 s4 s5 hst (by omega) hk (fun Q X g => G Q X (am_k226_2 (am_s208 (fun _ q => absurd (tk.symm.trans q) h45) (fun _ => ⟨fun _ => g, fun q => absurd rfl q⟩))))
        refine am_k38_2 hu ⟨fun _ => run, fun _ => ?_⟩
        rw [hkC]
        exact ⟨fun _ => run, fun q => absurd q h45⟩
  exact ak_MV_of (Nat.le_of_ble_eq_true rfl) (am_k38_0 hu (front (m - z 0) 0 z hc hm w ak_ext_refl rfl rfl rfl rfl rfl (Nat.le_refl _) (Nat.zero_le _) (by omega) (fun Q X g => ak_MI_of (Nat.le_of_ble_eq_true rfl) (am_k226_0 g))))
end LKUN
