/-! a block literal, from its bracket on -/
section LKL2
variable {e : ak_X3} {d u p : Nat} {b : Nat → Int} {n m lv o Mt : Nat} {D : Nat → Nat} {z : Nat → Nat} {hc hm : ak_S} {ρ : List Nat}
theorem am_w229 {hcx hmx : ak_S} {l : Nat} {v : Int} (hp2 : p < 2) (hl : l < 60) (wr : ak_WR u p hc hm hcx hmx)
    (G : ∀ (Q : Int → ak_S → Prop) (X : Nat → ak_S → Prop), ak_W0 e 1 (d + 6) 229 ρ 116 [some (am_r 110), some (am_i ((60 * p + l : Nat) : Int)), some (am_i v), none] [] hmx (ak_qi Q X) → ak_MI e 1 (d + 7) ρ 229 [am_r 110] hm Q X) :
    ∃ (x : Int) (hm' : ak_S), ak_WR u p hc hm hcx hm' ∧ ak_goI e (d + 7) ρ 229 [am_r 110] hm x hm' := by
  have b120 : 0 ≤ ((60 * p + l : Nat) : Int) ∧ ((60 * p + l : Nat) : Int) < 120 := by omega
  have wr1 : ak_WR u p hc hm hcx (am_up hmx.1 136 (60 * p + l) v, hmx.2) := ak_WR_M wr (Or.inr ⟨Or.inr rfl, by omega, by omega⟩)
  have wr2 : ak_WR u p hc hm hcx (am_up (am_up hmx.1 136 (60 * p + l) v) 135 (60 * p + l) (-1), hmx.2) := ak_WR_M wr1 (Or.inr ⟨Or.inl rfl, by omega, by omega⟩)
  obtain ⟨x', hm', ⟨h3, wf, rfl⟩, cl⟩ := ak_MI_get (e := e) (r := 1) (d := d + 7) (ρ := ρ) (j := 229) (ar := [am_r 110]) (h := hm) (Q := fun _ h' => ∃ h3, ak_wf (am_up (am_up hmx.1 136 (60 * p + l) v) 135 (60 * p + l) (-1), hmx.2) h3 ∧ h' = (am_up h3.1 110 42 (am_w32 (h3.1 110 42 - 1)), h3.2)) (G _ _ (am_k229_116 (by
      rw [ak_natn]
      exact ⟨b120, am_w231 wr1.1 ⟨b120, am_w211 wr2.1 (fun h3 wf => by
        have wr3 := ak_WR_note (ak_WR_wf wr2 wf) (v := am_w32 (h3.1 110 42 - 1))
        exact am_w206 wr3.1 ⟨fun q => absurd q (by decide), fun _ => ⟨h3, wf, rfl⟩⟩)⟩⟩)))
  exact ⟨x', _, ak_WR_note (ak_WR_wf wr2 wf), cl⟩
theorem lk_literal {ρ0 ρ3 ρ4 t : Nat} (hu : u = 0 ∨ u = 1) (hS : ∀ t', t' < t → ak_SX e u p b n m ρ0 ρ3 ρ4 ρ t') : ak_LX e u p b n m ρ0 ρ3 ρ4 ρ t := by
  intro lv D o Mt z hc hm d w pt ht k91
  have hT := ak_T_in hu
  have hlo := ak_lvo w
  have hf := w.2.2.1
  have hp := w.2.1.1.1
  have hp2 := w.2.1.1.2.1
  have bp : 0 ≤ (p : Int) ∧ (p : Int) < 2 := by omega
  have c5 := w.2.2.2.2.2.2.2.2.2.2.2.2.1
  have m5 := w.2.2.2.2.2.2.2.2.2.2.2.2.2.1
  have h60 := w.2.2.2.2.2.2.2.2.2.2.2.2.2.2.1
  have ham := ak_cc_lt w.1 (by rw [k91]; decide)
  refine ak_MV_of (Nat.le_of_ble_eq_true rfl) (am_k47_0 hu ?_)
  rw [c5]
  refine ⟨fun q => am_k47_17 hu (am_s10 hu (fun q => absurd rfl q) (fun _ => ⟨rfl, -1, _, ak_WR_at (by decide) w pt, fun Q X g => ak_MI_of (Nat.le_of_ble_eq_true rfl) (am_k229_0 ?_)⟩)), fun q => am_k47_17 hu (am_s10 hu (fun _ => ?_) (fun q => absurd q (by decide)))⟩
  · rw [hp, ak_natn, m5]
    exact ⟨bp, fun ne => absurd (show (z 5 : Int) = 60 by omega) ne, fun _ => am_s207 (fun _ => g) (fun q => absurd q (by omega))⟩
  have h60' : z 5 < 60 := by omega
  have hbad : ∀ hmx : ak_S, ak_WR u p hc hm (ak_th hc) hmx → ak_goV e (d + 20 * (20 - o) + 2 + 4) ρ 210 [am_r 110, am_i 91] hm hmx → ak_XX e ρ (d + 20 * (20 - o) + 7) 229 u p hc hm 0 (ak_th hc) := by
    intro hmx wr op
    refine ⟨rfl, -1, _, wr, fun Q X g => ak_MI_of (Nat.le_of_ble_eq_true rfl) (am_k229_0 ?_)⟩
    rw [hp, ak_natn, m5]
    exact ⟨bp, fun _ => op _ _ (am_w206 wr.1 ⟨fun q => absurd q (by decide), fun _ => g⟩), fun q => absurd q (by omega)⟩
  refine lk_open (dm := d + 20 * (20 - o) + 2) (f := 2) (ρ := ρ) (by decide) hu (by decide) w pt (fun hc1 hm1 _ ho I1 e1 su op => ?_) (fun no wr op => hbad _ wr op)
  -- the one's orders, the scope
  have c51 : hc1.1 (ak_T u) 14 = (z 5 : Int) := I1.2.2.2.2.2.2.2.2.2.2.2.2.1
  have m51 : hm1.1 134 p = (z 5 : Int) := I1.2.2.2.2.2.2.2.2.2.2.2.2.2.1
  rw [c51, ak_wj (show z 5 < 1000000 by omega)]
  have I2 := ak_PI_lit hu I1 (show z 5 < 60 from h60')
  have I3 := ak_PI_put hu I2 (r := 7) (x := (z 5 : Int))
  have I4 := ak_PI_put hu I3 (r := 30) (x := 0)
  have rm := ak_room w (by decide) pt
  have sc4 := I4.2.2.2.2.1
  have hl1 : lv + 1 ≤ 20 := by omega
  have I5 := ak_PI_sc hu I4 (ak_scs_upp sc4 hl1) (fun q k h1 h2 => (ak_up_out1 (by omega)).trans (ak_up_out h2)) (fun q k h => rfl) (fun q k h1 h2 => (ak_up_out1 h2).trans (ak_up_out (by omega))) (by omega)
  refine am_s3 (z := z 1) hu I2.2.2.2.2.2.2.2.2.1 (show z 1 < 9600 by omega) (am_s3 (z := z 1 + 1) hu I3.2.2.2.2.2.2.2.2.1 (show z 1 + 1 < 9600 by omega) ?_)
  generalize hG4 : ak_put (ak_put ((am_up hc1.1 (ak_T u) 14 ((z 5 + 1 : Nat) : Int), hc1.2) : ak_S) u (z 1) 7 (z 5 : Int)) u (z 1 + 1) 30 0 = c4
  have hG4' : ak_put (ak_put ((am_up hc1.1 (ak_T u) 14 ((ak_zu z 0 (z 0 + 1) 5 + 1 : Nat) : Int), hc1.2) : ak_S) u (ak_zu (ak_zu z 0 (z 0 + 1)) 5 (ak_zu z 0 (z 0 + 1) 5 + 1) 1) 7 (z 5 : Int)) u (ak_zu (ak_zu (ak_zu z 0 (z 0 + 1)) 5 (ak_zu z 0 (z 0 + 1) 5 + 1)) 1 (ak_zu (ak_zu z 0 (z 0 + 1)) 5 (ak_zu z 0 (z 0 + 1) 5 + 1) 1 + 1) 1) 30 0 = c4 := hG4
  rw [hG4'] at I5
  have s25 : c4.1 2 5 = (lv : Int) := by rw [← hG4']; exact sc4.1
  have s38 : c4.1 3 8 = ak_kd b n (ak_st b n (z 0 + 1)) := by rw [← hG4']; exact I4.1.2.2.2.2.1
  have o7 : c4.1 (ak_T u + 2) (z 1) = 7 := by rw [← hG4]; simp [ak_put, am_up]
  have o5 : c4.1 (ak_T u + 3) (z 1) = (z 5 : Int) := by rw [← hG4]; simp [ak_put, am_up]
  have o30 : c4.1 (ak_T u + 2) (z 1 + 1) = 30 := by rw [← hG4]; simp [ak_put, am_up]
  have e4 : ak_ext u p z (ak_zu (ak_zu (ak_zu (ak_zu z 0 (z 0 + 1)) 5 (z 5 + 1)) 1 (z 1 + 1)) 1 (z 1 + 1 + 1)) hc hm c4 (am_up hm1.1 134 p ((z 5 + 1 : Nat) : Int), hm1.2) := by
    have x1 : ak_ext u p z (ak_zu z 0 (z 0 + 1)) hc hm (am_up hc1.1 (ak_T u) 14 ((z 5 + 1 : Nat) : Int), hc1.2) (am_up hm1.1 134 p ((z 5 + 1 : Nat) : Int), hm1.2) := ak_ext_M (ak_ext_C e1 hu (by omega) (by omega) (by omega) (by omega) (by omega) (by omega)) (Or.inl ⟨rfl, rfl⟩)
    have x2 : ak_ext u p (ak_zu z 0 (z 0 + 1)) (ak_zu (ak_zu z 0 (z 0 + 1)) 5 (z 5 + 1)) (am_up hc1.1 (ak_T u) 14 ((z 5 + 1 : Nat) : Int), hc1.2) (am_up hm1.1 134 p ((z 5 + 1 : Nat) : Int), hm1.2) (am_up hc1.1 (ak_T u) 14 ((z 5 + 1 : Nat) : Int), hc1.2) (am_up hm1.1 134 p ((z 5 + 1 : Nat) : Int), hm1.2) :=
      ak_ext_of (fun i _ => ak_zu_le (Nat.le_succ _) i) (fun _ _ _ _ _ _ _ _ _ => rfl) (fun _ _ _ _ _ _ _ _ => rfl) (fun j h1 h2 => absurd (show j < z 4 from h2) (by have h3 : z 4 ≤ j := h1; omega)) ak_pC_refl ak_pM_refl rfl rfl rfl
    have x3 := ak_ext_trans (ak_ext_trans x1 x2) (ak_ext_trans (ak_ext_put (z := ak_zu (ak_zu z 0 (z 0 + 1)) 5 (z 5 + 1)) (r := 7) (x := (z 5 : Int)) hu) (ak_ext_put (r := 30) (x := 0) hu))
    rw [← hG4]
    exact x3
  have e5 : ak_ext u p z (ak_zu (ak_zu (ak_zu (ak_zu z 0 (z 0 + 1)) 5 (z 5 + 1)) 1 (z 1 + 1)) 1 (z 1 + 1 + 1)) hc hm (am_up (am_up c4.1 2 5 ((lv + 1 : Nat) : Int)) 31 (lv + 1) 0, c4.2) (am_up (am_up (am_up hm1.1 134 p ((z 5 + 1 : Nat) : Int)) 138 (lv + 1) 0) 110 42 ((lv + 2 : Nat) : Int), hm1.2) :=
    ak_ext_trans e4 (ak_ext_sc hu (fun q k h1 h2 => (ak_up_out1 (by omega)).trans (ak_up_out h2)) (fun q k h => rfl) (fun q k h1 h2 => (ak_up_out1 h2).trans (ak_up_out (by omega))) rfl rfl)
  have u7 : (am_up (am_up c4.1 2 5 ((lv + 1 : Nat) : Int)) 31 (lv + 1) 0) (ak_T u + 2) (z 1) = 7 := (ak_up_out (by omega)).trans ((ak_up_out (by omega)).trans o7)
  have u5 : (am_up (am_up c4.1 2 5 ((lv + 1 : Nat) : Int)) 31 (lv + 1) 0) (ak_T u + 3) (z 1) = (z 5 : Int) := (ak_up_out (by omega)).trans ((ak_up_out (by omega)).trans o5)
  have u30 : (am_up (am_up c4.1 2 5 ((lv + 1 : Nat) : Int)) 31 (lv + 1) 0) (ak_T u + 2) (z 1 + 1) = 30 := (ak_up_out (by omega)).trans ((ak_up_out (by omega)).trans o30)
  have su' : ak_st b n (z 0) + 1 ≤ ak_st b n (z 0 + 1) := su
  -- the other, up to its first statement or bar
  have G0 : ∀ (Q : Int → ak_S → Prop) (X : Nat → ak_S → Prop), ak_MI e 1 (d + 20 * (20 - o) + 6) ρ 208 [am_r 110, am_i 124] (am_up (am_up (am_up hm1.1 134 p ((z 5 + 1 : Nat) : Int)) 138 (lv + 1) 0) 110 42 ((lv + 2 : Nat) : Int), hm1.2) (fun v5 h4 =>
            (v5 = 0 →
              ak_W0 e 1 (d + 20 * (20 - o) + 6) 229 ρ 116 [some (am_r 110), some (am_i ((60 * p + z 5 : Nat) : Int)), some (am_i 0), none] [] h4 (ak_qi Q X))
            ∧ (v5 ≠ 0 →
              ak_MV e 1 (d + 20 * (20 - o) + 6) ρ 205 [am_r 110] h4 (fun h6 =>
                ak_MI e 1 (d + 20 * (20 - o) + 6) ρ 230 [am_r 110] h6 (fun v8 h7 =>
                  ak_MV e 1 (d + 20 * (20 - o) + 6) ρ 209 [am_r 110, am_i 124] h7 (fun h9 =>
                    ak_W0 e 1 (d + 20 * (20 - o) + 6) 229 ρ 116 [some (am_r 110), some (am_i ((60 * p + z 5 : Nat) : Int)), some (am_i v8), none] [] h9 (ak_qi Q X)) (fun _ _ => False)) (fun _ _ => False)) (fun _ _ => False))) (fun _ _ => False) → ak_MI e 1 (d + 20 * (20 - o) + 7) ρ 229 [am_r 110] hm Q X := by
    intro Q X g
    refine ak_MI_of (Nat.le_of_ble_eq_true rfl) (am_k229_0 ?_)
    rw [hp, ak_natn, m5]
    refine ⟨bp, fun _ => op _ _ (am_s206 (fun _ => ⟨fun _ => ?_, fun q => absurd rfl q⟩) (fun q => absurd q (by have := I1.2.2.1; omega))), fun q => absurd q (by omega)⟩
    have p31 : hm1.1 110 31 = (p : Int) := I1.2.1.1.1
    have s42 : hm1.1 110 42 = ((lv + 1 : Nat) : Int) := I1.2.2.2.2.1.2.2.1
    rw [p31, ak_natn, s42, ak_natn, m51, ak_wj (show z 5 < 1000000 by omega), ak_wj (show lv + 1 < 1000000 by omega), show am_w32 (am_w32 (60 * (p : Int)) + (z 5 : Int)) = ((60 * p + z 5 : Nat) : Int) from ak_wmul (c := 60) (by omega)]
    exact ⟨bp, bp, bp, by omega, g⟩
  rw [s25, ak_wj (show lv < 1000000 by omega), ak_natn, s38]
  refine ⟨by omega, fun n124 => ?_, fun k124 => ?_⟩
  · refine lk_lit_tail (k := 0) hu (hS (t - 1) (by omega)) (by decide) w pt ho I5 e5 (fun s hs => if_neg (by omega)) rfl rfl rfl rfl rfl su (Nat.lt_succ_self _) u7 u5 u30 (show m ≤ z 0 + 1 + (t - 1) by omega) (fun Q X g => G0 Q X (am_s208 (fun _ q => absurd (I5.2.1.2.2.1.symm.trans q) n124) (fun _ => ⟨fun _ => g, fun q => absurd rfl q⟩)))
  · have pt5 : ak_POT b n (o + 1) 0 (ak_zu (ak_zu (ak_zu (ak_zu (ak_zu z 0 (z 0 + 1)) 5 (z 5 + 1)) 1 (z 1 + 1)) 1 (z 1 + 1 + 1)) 0 (z 0 + 1 + 1)) := by
      have su2 := ak_st_up I5.1 (ak_cc_lt I5.1 (show ak_kd b n (ak_st b n (z 0 + 1)) ≠ 0 by omega))
      have su2' : ak_st b n (z 0 + 1) + 1 ≤ ak_st b n (z 0 + 1 + 1) := su2
      unfold ak_POT at pt ⊢
      show 2 * (z 1 + 1 + 1) ≤ 3 * ak_st b n (z 0 + 1 + 1) + (z 5 + 1) + 10 * (o + 1) + 3 * 0 ∧ z 2 ≤ ak_st b n (z 0 + 1 + 1) + 2 * (o + 1) + 0 ∧ 13 * z 3 ≤ ak_st b n (z 0 + 1 + 1) + 13 * (o + 1) ∧ 6 * z 4 ≤ ak_st b n (z 0 + 1 + 1)
      omega
    refine lk_adv (dm := d + 20 * (20 - o) + 3) (ρ := ρ) hu I5 (show ak_kd b n (ak_st b n (z 0 + 1)) ≠ 0 by omega) (fun hc6 hm6 I6 fr6 fr7 e6 su6 rd6 => ?_)
    have su6' : ak_st b n (z 0 + 1) + 1 ≤ ak_st b n (z 0 + 1 + 1) := su6
    have G1 : ∀ (Q : Int → ak_S → Prop) (X : Nat → ak_S → Prop), ak_MI e 1 (d + 20 * (20 - o) + 6) ρ 230 [am_r 110] hm6 (fun v8 h7 =>
                  ak_MV e 1 (d + 20 * (20 - o) + 6) ρ 209 [am_r 110, am_i 124] h7 (fun h9 =>
                    ak_W0 e 1 (d + 20 * (20 - o) + 6) 229 ρ 116 [some (am_r 110), some (am_i ((60 * p + z 5 : Nat) : Int)), some (am_i v8), none] [] h9 (ak_qi Q X)) (fun _ _ => False)) (fun _ _ => False) → ak_MI e 1 (d + 20 * (20 - o) + 7) ρ 229 [am_r 110] hm Q X :=
      fun Q X g => G0 Q X (am_s208 (fun _ _ => ⟨fun q => absurd q (by decide), fun _ => rd6 _ _ g⟩) (fun q => absurd ⟨I5.2.2.1, I5.2.1.2.2.1.trans k124⟩ q))
    have e06 := ak_ext_trans e5 e6
    refine ak_MI_imp (lk_params (d := d + 20 * (20 - o)) (f := 0) (ρ := ρ) (by decide) hu I6 pt5) (fun v hc7 R => ?_) (fun ex hcx R => ?_)
    · obtain ⟨k, D', z7, hm7, rfl, hk, I7, l7, ⟨g1, g2, g3, g4, g5⟩, s7, e7, d7, go7⟩ := R
      have g1' : z7 1 = z 1 + 2 := g1
      have g2' : z7 2 = z 2 := g2
      have g3' : z7 3 = z 3 := g3
      have g4' : z7 4 = z 4 := g4
      have g5' : z7 5 = z 5 + 1 := g5
      have l7' : z 0 + 1 + 1 < z7 0 := l7
      have s7' : ak_st b n (z 0 + 1 + 1) + 1 ≤ ak_st b n (z7 0) := s7
      have e07 := ak_ext_trans e06 e7
      have pt7 : ak_POT b n (o + 1) 0 z7 := by
        unfold ak_POT at pt ⊢
        omega
      refine lk_pass (dm := d + 20 * (20 - o) + 2) (ρ := ρ) (f := 0) (by decide) hu (by decide) I7 pt7 (fun hc8 hm8 _ I8 fr8 _ e8 su8 ps => ?_) (fun no wr ps => ?_)
      · have e78 := ak_ext_trans e7 e8
        have c8 : ∀ q j, q = ak_T u + 2 ∨ q = ak_T u + 3 → j < z 1 + 2 → hc8.1 q j = hc6.1 q j := by
          intro q j hq hj
          have g := e78.2.1.1 j (Nat.zero_le _) hj
          rcases hq with rfl | rfl
          · exact g.1
          · exact g.2
        have c6 : ∀ q j, q = ak_T u + 2 ∨ q = ak_T u + 3 → hc6.1 q j = (am_up (am_up c4.1 2 5 ((lv + 1 : Nat) : Int)) 31 (lv + 1) 0) q j := fun q j hq => fr6.1 q j (by omega)
        refine lk_lit_tail (k := k) hu (hS (t - 1) (by omega)) hk w pt ho I8 (ak_ext_trans e06 e78) (fun s hs => (d7 s (by omega)).trans (if_neg (by omega))) g1' g2' g3' g4' g5' (show ak_st b n (z 0) + 1 ≤ ak_st b n (z7 0 + 1) by have : ak_st b n (z7 0) + 1 ≤ ak_st b n (z7 0 + 1) := su8; omega) (show z 0 < z7 0 + 1 by omega)
          ((c8 _ _ (Or.inl rfl) (by omega)).trans ((c6 _ _ (Or.inl rfl)).trans u7)) ((c8 _ _ (Or.inr rfl) (by omega)).trans ((c6 _ _ (Or.inr rfl)).trans u5)) ((c8 _ _ (Or.inl rfl) (by omega)).trans ((c6 _ _ (Or.inl rfl)).trans u30)) (show m ≤ z7 0 + 1 + (t - 1) by omega) (fun Q X g => G1 Q X (go7 _ _ (ps _ _ g)))
      · exact ⟨rfl, am_w229 hp2 h60' (ak_WR_ext w I7 (Nat.le_succ _) e07 wr) (fun Q X g => G1 Q X (go7 _ _ (ps _ _ g)))⟩
    · obtain ⟨hx, y, hmx, wr, go⟩ := R
      exact ⟨hx, am_w229 hp2 h60' (ak_WR_ext w I6 (Nat.le_succ _) e06 wr) (fun Q X g => G1 Q X (go _ _ (am_s209w wr.1 g)))⟩
end LKL2
