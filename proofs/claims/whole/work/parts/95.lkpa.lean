/-! scopes; the words that are declared between bars or parentheses -/
section LKPA
variable {e : ak_X3} {d u p : Nat} {b : Nat → Int} {n m lv lv' o Mt : Nat} {D D' : Nat → Nat} {z z1 z' : Nat → Nat} {hc hm hc1 hm1 hc' hm' : ak_S} {ρ : List Nat}
theorem ak_PI_sc (hu : u = 0 ∨ u = 1) (w : ak_PI u p b n m lv D o Mt z hc hm) (sc : ak_scs b n hc' hm' lv' D') (fC : ∀ q k, q ≠ 31 → ¬ (q = 2 ∧ k = 5) → hc'.1 q k = hc.1 q k) (fJ : ∀ q k, q ≠ 30 → hc'.2.1 q k = hc.2.1 q k) (fM : ∀ q k, ¬ (138 ≤ q ∧ q ≤ 140) → ¬ (q = 110 ∧ k = 42) → hm'.1 q k = hm.1 q k) (hl : lv' ≤ o) : ak_PI u p b n m lv' D' o Mt z hc' hm' := by
  have hT := ak_T_in hu
  obtain ⟨w1, w2, w3, w4, w5, w6, w7, w8, w9, w10, w11, w12, w13, w14, w15, w16⟩ := w
  refine ⟨ak_cc_fr w1 (fun k => fC _ _ (by omega) (by omega)) (fun k => fC _ _ (by omega) (by omega)) (fun k => fC _ _ (by omega) (by omega)) (fJ _ _ (by omega)) (fun k => fJ _ _ (by omega)), ak_cm_fr w2 (fun k h1 h2 => fM _ _ (by omega) (by omega)) (fun k => fM _ _ (by omega) (by omega)) (fun k => fM _ _ (by omega) (by omega)) (fun k => fM _ _ (by omega) (by omega)), ?_, ?_, sc,
    ak_nms_fr w6 (fC _ _ (by omega) (by omega)) (fun k => fJ _ _ (by omega)) (fM _ _ (by omega) (by omega)) (fun k => fM _ _ (by omega) (by omega)) (fun k => fM _ _ (by omega) (by omega)),
    ak_sts_fr w7 (Nat.le_refl _) (fC _ _ (by omega) (by omega)) (fun q k h1 h2 => fC _ _ (by omega) (by omega)) (fun q k h1 h2 => fM _ _ (by omega) (by omega)),
    ak_mths_fr w8 (fC _ _ (by omega) (by omega)) (fun k => fJ _ _ (by omega)) (fun q k h1 h2 => fM _ _ (by omega) (by omega)), ?_, ?_, ?_, ?_, ?_, ?_, w15, ?_, hl⟩
  · rw [fM _ _ (by omega) (by omega)]; exact w3
  · rw [fM _ _ (by omega) (by omega)]; exact w4
  · rw [fC _ _ (by omega) (by omega)]; exact w9
  · rw [fM _ _ (by omega) (by omega)]; exact w10
  · rw [fC _ _ (by omega) (by omega)]; exact w11
  · rw [fC _ _ (by omega) (by omega)]; exact w12
  · rw [fC _ _ (by omega) (by omega)]; exact w13
  · rw [fM _ _ (by omega) (by omega)]; exact w14
  · rw [fC _ _ (by omega) (by omega)]; exact w16.1
theorem ak_ext_sc (hu : u = 0 ∨ u = 1) (fC : ∀ q k, q ≠ 31 → ¬ (q = 2 ∧ k = 5) → hc'.1 q k = hc.1 q k) (fJ : ∀ q k, q ≠ 30 → hc'.2.1 q k = hc.2.1 q k) (fM : ∀ q k, ¬ (138 ≤ q ∧ q ≤ 140) → ¬ (q = 110 ∧ k = 42) → hm'.1 q k = hm.1 q k) (g1 : hc'.2.2 = hc.2.2) (g2 : hm'.2 = hm.2) : ak_ext u p z z hc hm hc' hm' := by
  have hT := ak_T_in hu
  refine ak_ext_of (fun _ _ => Nat.le_refl _) (fun q k h1 h2 _ _ _ _ _ => fC _ _ (by omega) (by omega)) (fun q k h1 h2 _ _ _ _ => fM _ _ (by omega) (by omega)) (fun j h1 h2 => absurd h2 (by omega)) ⟨fun q k h => fC q k (fun g => h (Or.inr (Or.inl g))) (fun g => h (Or.inl g.1)), fun q k h => fJ q k (fun g => h (Or.inl g))⟩ ⟨fun q k h => fM q k (fun g => h ?_) (fun g => h (Or.inl ⟨g.1, Or.inr (by omega)⟩)), congrArg (fun y => y.1) g2⟩ (fC _ _ (by omega) (by omega)) g1 (congrArg (fun y => y.2) g2)
  have : q = 138 ∨ q = 139 ∨ q = 140 := by omega
  exact Or.inr (Or.inr (Or.inr (Or.inr (Or.inr (Or.inr (Or.inr this))))))
/-- a word declared -/
theorem ak_PI_dc (hu : u = 0 ∨ u = 1) {i y : Nat} (w : ak_PI u p b n m lv D o Mt z hc hm) (hD : D lv < 12) (wd : ak_wd b n i y) : ak_PI u p b n m lv (fun s => if s = lv then D lv + 1 else D s) o Mt z (ak_dcC hc lv (D lv) (ak_pk b i y)) (ak_dcM hm lv (D lv) (i : Int) (y : Int)) := by
  refine ak_PI_sc hu w (ak_scs_dc w.2.2.2.2.1 hD wd) (fun q k h1 h2 => ?_) (fun q k h1 => ?_) (fun q k h1 h2 => ?_) (ak_lvo w)
  · exact ak_up_out (by omega)
  · exact ak_up_out (by omega)
  · show am_up (am_up (am_up hm.1 139 (12 * lv + D lv) (i : Int)) 140 (12 * lv + D lv) (y : Int)) 138 lv ((D lv + 1 : Nat) : Int) q k = _
    rw [ak_up_out (by omega), ak_up_out (by omega), ak_up_out (by omega)]
theorem ak_ext_dc (hu : u = 0 ∨ u = 1) {k : Nat} {v i y : Int} : ak_ext u p z z hc hm (ak_dcC hc lv k v) (ak_dcM hm lv k i y) := by
  refine ak_ext_sc hu (fun q j h1 h2 => ?_) (fun q j h1 => ?_) (fun q j h1 h2 => ?_) rfl rfl
  · exact ak_up_out (by omega)
  · exact ak_up_out (by omega)
  · show am_up (am_up (am_up hm.1 139 (12 * lv + k) i) 140 (12 * lv + k) y) 138 lv ((k + 1 : Nat) : Int) q j = _
    rw [ak_up_out (by omega), ak_up_out (by omega), ak_up_out (by omega)]
/-- whether the word at hand may be declared: both say so, or both refuse -/
theorem lk_may {ρ0 ρ3 ρ4 dm f : Nat} {Q : ak_S → Prop} {X : Nat → ak_S → Prop} (hf2 : f ≤ 10) (hu : u = 0 ∨ u = 1) (w : ak_PI u p b n m lv D o Mt z hc hm) (pt : ak_POT b n o f z)
    (ok : ak_kd b n (ak_st b n (z 0)) = 2 → D lv < 12 → ak_wd b n (ak_st b n (z 0)) (ak_nx b n (ak_st b n (z 0)) - ak_st b n (z 0)) → hc.2.1 3 10 = ak_pk b (ak_st b n (z 0)) (ak_nx b n (ak_st b n (z 0)) - ak_st b n (z 0)) → ak_goV e (dm + 4) ρ 215 [am_r 110] hm hm → Q hc)
    (bad : ak_WR u p hc hm (ak_th hc) (ak_wr hm) → ak_goV e (dm + 4) ρ 215 [am_r 110] hm (ak_wr hm) → X 0 (ak_th hc)) : ak_MV e 0 (d + 2) [ρ0, ak_T u, ak_T u + 1, ρ3, ρ4] 16 [am_r 2] hc Q X := by
  have hkC := w.1.2.2.2.2.1
  have tk := w.2.1.2.2.1
  have hf := w.2.2.1
  have sc := w.2.2.2.2.1
  have v10 : ak_kd b n (ak_st b n (z 0)) = 2 → ak_wd b n (ak_st b n (z 0)) (ak_nx b n (ak_st b n (z 0)) - ak_st b n (z 0)) ∧ hc.2.1 3 10 = ak_pk b (ak_st b n (z 0)) (ak_nx b n (ak_st b n (z 0)) - ak_st b n (z 0)) := by
    intro hk
    obtain ⟨hin, hl, wd, hv⟩ := ak_kd_word hk
    refine ⟨wd, ?_⟩
    rw [w.1.2.2.2.2.2.2]
    exact hv _ (w.1.2.1 (z 0) w.1.1.1).2.2
  have W := ak_WR_at hf2 w pt
  have same : ak_may hc D lv (hm.1 110 33) (ak_pk b (ak_st b n (z 0)) (ak_nx b n (ak_st b n (z 0)) - ak_st b n (z 0))) ↔ ak_may hc D lv (hc.1 3 8) (hc.2.1 3 10) := by
    rw [hkC, tk]
    constructor
    · intro h
      have h2 := (v10 h.1).2
      rw [h2]; exact h
    · intro h
      have h2 := (v10 h.1).2
      rw [h2] at h; exact h
  refine am_s16 hu sc (fun my => ?_) (fun no => ?_)
  · have hk : ak_kd b n (ak_st b n (z 0)) = 2 := hkC.symm.trans my.1
    exact ok hk my.2.1 (v10 hk).1 (v10 hk).2 (fun P Y q => am_s215 sc w.2.1.1 hf w.2.1.2.2.2.1 w.2.1.2.2.2.2.1 (fun _ => (v10 hk).1) (fun _ => q) (fun h => absurd (same.2 my) h))
  · exact bad W (fun P Y q => am_s215 sc w.2.1.1 hf w.2.1.2.2.2.1 w.2.1.2.2.2.2.1 (fun h => (v10 (tk.symm.trans h)).1) (fun h => absurd (same.1 h) no) (fun _ => q))
theorem lk_params {ρ0 ρ3 ρ4 f : Nat} (hf2 : f ≤ 10) (hu : u = 0 ∨ u = 1) (w : ak_PI u p b n m lv D o Mt z hc hm) (pt : ak_POT b n o f z) :
    ak_MI e 0 (d + 6) [ρ0, ak_T u, ak_T u + 1, ρ3, ρ4] 15 [am_r 2] hc
      (fun v hc' => ∃ (k : Nat) (D' z' : Nat → Nat) (hm' : ak_S), v = (k : Int) ∧ k ≤ 4 ∧ ak_PI u p b n m lv D' o Mt z' hc' hm' ∧ z 0 < z' 0 ∧ (z' 1 = z 1 ∧ z' 2 = z 2 ∧ z' 3 = z 3 ∧ z' 4 = z 4 ∧ z' 5 = z 5) ∧ ak_st b n (z 0) + 1 ≤ ak_st b n (z' 0) ∧ ak_ext u p z z' hc hm hc' hm' ∧ (∀ s, s < lv → D' s = D s) ∧ ak_goI e (d + 6) ρ 230 [am_r 110] hm (k : Int) hm')
      (fun ex hc' => ex = 0 ∧ ∃ (y : Int) (hmx : ak_S), ak_WR u p hc hm hc' hmx ∧ ak_goI e (d + 6) ρ 230 [am_r 110] hm y hmx) := by
  have more : ∀ (c k : Nat) (D1 z1 : Nat → Nat) (hc1 hm1 : ak_S), k + c = 4 → ak_PI u p b n m lv D1 o Mt z1 hc1 hm1 → z 0 ≤ z1 0 → (z1 1 = z 1 ∧ z1 2 = z 2 ∧ z1 3 = z 3 ∧ z1 4 = z 4 ∧ z1 5 = z 5) → ak_st b n (z 0) ≤ ak_st b n (z1 0) → ak_ext u p z z1 hc hm hc1 hm1 → (∀ s, s < lv → D1 s = D s) →
      (∀ (Q : Int → ak_S → Prop) (X : Nat → ak_S → Prop), ak_W0 e 1 (d + 5) 230 ρ 4 [some (am_r 110), some (am_i (k : Int)), some (am_i 1), none] [] hm1 (ak_qi Q X) → ak_MI e 1 (d + 6) ρ 230 [am_r 110] hm Q X) →
      ak_W0 e 0 (d + 5) 15 [ρ0, ak_T u, ak_T u + 1, ρ3, ρ4] 4 [some (am_r 2), some (am_i (k : Int)), some (am_i 1)] [] hc1 (ak_qi (fun v hc' => ∃ (k : Nat) (D' z' : Nat → Nat) (hm' : ak_S), v = (k : Int) ∧ k ≤ 4 ∧ ak_PI u p b n m lv D' o Mt z' hc' hm' ∧ z 0 < z' 0 ∧ (z' 1 = z 1 ∧ z' 2 = z 2 ∧ z' 3 = z 3 ∧ z' 4 = z 4 ∧ z' 5 = z 5) ∧ ak_st b n (z 0) + 1 ≤ ak_st b n (z' 0) ∧ ak_ext u p z z' hc hm hc' hm' ∧ (∀ s, s < lv → D' s = D s) ∧ ak_goI e (d + 6) ρ 230 [am_r 110] hm (k : Int) hm')
      (fun ex hc' => ex = 0 ∧ ∃ (y : Int) (hmx : ak_S), ak_WR u p hc hm hc' hmx ∧ ak_goI e (d + 6) ρ 230 [am_r 110] hm y hmx)) := by
    intro c
    induction c with
    | zero =>
      intro k D1 z1 hc1 hm1 hkc I1 l1 q1 s1 e1 d1 G
      have k4 : k = 4 := hkc
      subst k4
      have pt1 : ak_POT b n o f z1 := by
        unfold ak_POT at pt ⊢
        omega
      have W := ak_WR_at hf2 I1 pt1
      have hf1 := I1.2.2.1
      refine am_k15_4 hu ⟨fun q => absurd q (by decide), fun _ => ⟨fun q => absurd q (by decide), fun _ => ⟨fun _ => am_k15_23 hu (am_s10 hu (fun q => absurd rfl q) (fun _ => ?_)), fun q => absurd q (by decide)⟩⟩⟩
      refine ⟨rfl, 4, ak_wr hm1, ak_WR_ext w I1 (Nat.le_refl _) e1 W, fun Q X g => G Q X (am_k230_4 ⟨fun q => absurd q (by decide), fun _ => am_s206 (fun _ => ⟨fun q => absurd rfl q, fun _ => ⟨fun q => absurd rfl q, fun _ => am_s207 (fun _ => ?_) (fun q => absurd q (by omega))⟩⟩) (fun q => absurd q (by omega))⟩)⟩
      exact am_k230_28 (am_w215 (h := ak_wr hm1) W.1 (am_w206 W.1 ⟨fun q => absurd q (by decide), fun _ => g⟩))
    | succ c ih =>
      intro k D1 z1 hc1 hm1 hkc I1 l1 q1 s1 e1 d1 G
      have pt1 : ak_POT b n o f z1 := by
        unfold ak_POT at pt ⊢
        omega
      have hf1 := I1.2.2.1
      have G1 : ∀ (Q : Int → ak_S → Prop) (X : Nat → ak_S → Prop), ak_W0 e 1 (d + 5) 230 ρ 28 [some (am_r 110), some (am_i (k : Int)), none, none] [] hm1 (ak_qi Q X) → ak_MI e 1 (d + 6) ρ 230 [am_r 110] hm Q X :=
        fun Q X g => G Q X (am_k230_4 ⟨fun q => absurd q (by decide), fun _ => am_s206 (fun _ => ⟨fun q => absurd rfl q, fun _ => ⟨fun _ => g, fun q => absurd q (by omega)⟩⟩) (fun q => absurd q (by omega))⟩)
      refine am_k15_4 hu ⟨fun q => absurd q (by decide), fun _ => ⟨fun q => absurd q (by omega), fun _ => ⟨fun q => absurd q (by omega), fun _ => am_k15_23 hu (am_s10 hu (fun _ => ?_) (fun q => absurd q (by decide)))⟩⟩⟩
      refine lk_may (dm := d + 1) (ρ := ρ) hf2 hu I1 pt1 (fun hk hD wd v10 my => ?_) (fun wr my => ⟨rfl, (k : Int), ak_wr hm1, ak_WR_ext w I1 (Nat.le_refl _) e1 wr, fun Q X g => G1 Q X (am_k230_28 (my _ _ (am_w206 wr.1 ⟨fun q => absurd q (by decide), fun _ => g⟩)))⟩)
      rw [v10, ak_wj (show k < 1000000 by omega)]
      refine am_s17 hu I1.2.2.2.2.1 hD ?_
      have I2 := ak_PI_dc hu I1 hD wd
      have e2 := ak_ext_dc (p := p) (z := z1) (hc := hc1) (hm := hm1) (lv := lv) (k := D1 lv) (v := ak_pk b (ak_st b n (z1 0)) (ak_nx b n (ak_st b n (z1 0)) - ak_st b n (z1 0))) (i := ((ak_st b n (z1 0) : Nat) : Int)) (y := ((ak_nx b n (ak_st b n (z1 0)) - ak_st b n (z1 0) : Nat) : Int)) hu
      refine lk_adv (dm := d + 2) (ρ := ρ) hu I2 (by omega) (fun hc3 hm3 I3 fr fr3 e3 su rd => ?_)
      have hkC := I3.1.2.2.2.2.1
      have tk := I3.2.1.2.2.1
      have hf3 := I3.2.2.1
      have e03 := ak_ext_trans e1 (ak_ext_trans e2 e3)
      have d3 : ∀ s, s < lv → (fun s => if s = lv then D1 lv + 1 else D1 s) s = D s := fun s hs => (if_neg (show s ≠ lv by omega)).trans (d1 s hs)
      have run : ∀ (Q : Int → ak_S → Prop) (X : Nat → ak_S → Prop), ak_MI e 1 (d + 5) ρ 208 [am_r 110, am_i 44] hm3 (fun v8 h7 =>
              (v8 = 0 →
                ak_W0 e 1 (d + 5) 230 ρ 4 [some (am_r 110), some (am_i ((k + 1 : Nat) : Int)), some (am_i v8), none] [] h7 (ak_qi Q X))
              ∧ (v8 ≠ 0 →
                ak_MV e 1 (d + 5) ρ 205 [am_r 110] h7 (fun h9 =>
                  ak_W0 e 1 (d + 5) 230 ρ 4 [some (am_r 110), some (am_i ((k + 1 : Nat) : Int)), some (am_i v8), none] [] h9 (ak_qi Q X)) (fun _ _ => False))) (fun _ _ => False) → ak_MI e 1 (d + 6) ρ 230 [am_r 110] hm Q X := by
        intro Q X g
        refine G1 Q X (am_k230_28 (my _ _ (am_s206 (fun _ => ⟨fun _ => ?_, fun q => absurd rfl q⟩) (fun q => absurd q (by omega)))))
        rw [I1.2.1.2.2.2.1, I1.2.1.2.2.2.2.1, ak_wj (show k < 1000000 by omega)]
        exact am_s216 I1.2.2.2.2.1 hD (rd _ _ g)
      rw [hkC]
      refine ⟨fun n44 => ⟨fun _ => am_k15_4 hu ⟨fun _ => ?_, fun q => absurd rfl q⟩, fun q => absurd rfl q⟩, fun k44 => ⟨fun q => absurd q (by decide), fun _ => ?_⟩⟩
      · exact ⟨k + 1, _, _, hm3, rfl, by omega, I3, show z 0 < z1 0 + 1 by omega, q1, show ak_st b n (z 0) + 1 ≤ ak_st b n (z1 0 + 1) by omega, e03, d3, fun Q X g => run Q X (am_s208 (fun _ q => absurd (tk.symm.trans q) n44) (fun _ => ⟨fun _ => am_k230_4 ⟨fun _ => g, fun q => absurd rfl q⟩, fun q => absurd rfl q⟩))⟩
      · refine lk_adv (dm := d + 2) (ρ := ρ) hu I3 (by rw [k44]; decide) (fun hc4 hm4 I4 fr4 fr5 e4 su4 rd4 => ?_)
        have su4' : ak_st b n (z1 0 + 1) + 1 ≤ ak_st b n (z1 0 + 1 + 1) := su4
        exact ih (k + 1) _ _ hc4 hm4 (by omega) I4 (show z 0 ≤ z1 0 + 1 + 1 by omega) q1 (show ak_st b n (z 0) ≤ ak_st b n (z1 0 + 1 + 1) by omega) (ak_ext_trans e03 e4) d3 (fun Q X g => run Q X (am_s208 (fun _ _ => ⟨fun q => absurd q (by decide), fun _ => rd4 _ _ g⟩) (fun q => absurd ⟨hf3, tk.trans k44⟩ q)))
  exact ak_MI_of (Nat.le_of_ble_eq_true rfl) (am_k15_0 hu (more 4 0 D z hc hm rfl w (Nat.le_refl _) ⟨rfl, rfl, rfl, rfl, rfl⟩ (Nat.le_refl _) ak_ext_refl (fun _ _ => rfl) (fun Q X g => ak_MI_of (Nat.le_of_ble_eq_true rfl) (am_k230_0 g))))
end LKPA
