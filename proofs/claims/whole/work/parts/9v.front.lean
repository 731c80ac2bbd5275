/-! the front of the one: a text cleared, its tokens read; then the whole of translate, both sides at once -/
section FRNT
variable {e : ak_X3} {d u p us n : Nat} {hc hm : ak_S} {ρ ρ2 : List Nat}
def ak_clr (u : Nat) (h : ak_S) : ak_S := (am_up (am_up (am_up (am_up (am_up (am_up (am_up h.1 (ak_T u + 1) 2 0) (ak_T u + 1) 6 0) (ak_T u + 1) 11 0) (ak_T u) 4 0) (ak_T u) 10 0) (ak_T u) 14 0) (ak_T u) 6 1, am_up h.2.1 (ak_T u + 14) 0 409204, h.2.2)
theorem am_s134 (hu : u = 0 ∨ u = 1) {Q : ak_S → Prop} {X : Nat → ak_S → Prop} (w : Q (ak_clr u hc)) : ak_MV e 0 (d + 2) ρ 134 [am_r (ak_T u)] hc Q X := by
  have m1 : am_cats [am_r (ak_T u)] ≤ am_ml am_P 134 := by rcases hu with rfl | rfl <;> exact Nat.le_of_ble_eq_true rfl
  have m2 : am_cats [am_r (ak_T u + 1)] ≤ am_ml am_P 2 := by rcases hu with rfl | rfl <;> exact Nat.le_of_ble_eq_true rfl
  exact ak_MV_of m1 (am_k134_0 hu (ak_MV_of m2 (am_k2_0 hu ⟨by decide, w⟩)))
theorem ak_clr_I (q k : Nat) (h : ¬ (ak_T u ≤ q ∧ q ≤ ak_T u + 20)) : (ak_clr u hc).1 q k = hc.1 q k := by
  unfold ak_clr
  dsimp only
  rw [ak_up_out (by omega), ak_up_out (by omega), ak_up_out (by omega), ak_up_out (by omega), ak_up_out (by omega), ak_up_out (by omega), ak_up_out (by omega)]
theorem ak_clr_J (q k : Nat) (h : ¬ (ak_T u ≤ q ∧ q ≤ ak_T u + 20)) : (ak_clr u hc).2.1 q k = hc.2.1 q k := by
  unfold ak_clr
  dsimp only
  rw [ak_up_out (by omega)]
theorem ak_clr_v : (ak_clr u hc).1 (ak_T u) 6 = 1 ∧ (ak_clr u hc).1 (ak_T u) 14 = 0 ∧ (ak_clr u hc).1 (ak_T u) 10 = 0 ∧ (ak_clr u hc).1 (ak_T u) 4 = 0 ∧ (ak_clr u hc).1 (ak_T u + 1) 11 = 0 ∧ (ak_clr u hc).1 (ak_T u + 1) 6 = 0 ∧ (ak_clr u hc).1 (ak_T u + 1) 2 = 0 ∧ (ak_clr u hc).2.1 (ak_T u + 14) 0 = 409204 := by
  unfold ak_clr
  dsimp only
  refine ⟨?_, ?_, ?_, ?_, ?_, ?_, ?_, ?_⟩ <;> simp [am_up]
/-- what the one changes in a text up to its first method -/
def ak_pcF (u q k : Nat) : Prop := ak_pcI u q k ∨ q = 6 ∨ q = 7 ∨ (q = 3 ∧ k = 6)
def ak_pcG (u q k : Nat) : Prop := ak_pcJ u q k ∨ q = 8
def ak_fF (u : Nat) (hc hc1 : ak_S) : Prop := (∀ q k, ¬ ak_pcF u q k → hc1.1 q k = hc.1 q k) ∧ (∀ q k, ¬ ak_pcG u q k → hc1.2.1 q k = hc.2.1 q k) ∧ hc1.2.2 = hc.2.2
def ak_fL (p : Nat) (hm hm1 : ak_S) : Prop := (∀ q k, ¬ ak_pL p q k → hm1.1 q k = hm.1 q k) ∧ hm1.2 = hm.2
def ak_zF : Nat → Nat := fun i => if i = 6 then 1 else 0
/-- a text taken on by both -/
def ak_TR (e : ak_X3) (d : Nat) (ρ2 : List Nat) (u p n : Nat) (hc hm : ak_S) (hc' : ak_S) : Prop := ∃ (hc1 hm1 : ak_S) (m Mt : Nat) (z : Nat → Nat) (hm' : ak_S), ak_fF u hc hc1 ∧ ak_fL p hm hm1 ∧ hm1.1 110 0 = 0 ∧ hm1.1 110 2 = 0 ∧ ak_fm u p hc1 hm1 hc' hm' ∧
  ak_PM u p (hc.1 4) n m Mt z hc' hm' ∧ 1 ≤ Mt ∧ ak_POT (hc.1 4) n 0 0 z ∧ ak_PRG u p Mt z hc' hm' ∧ ∀ (Q : Int → ak_S → Prop) (X : Nat → ak_S → Prop), ak_W0 e 1 (d + 440) 237 ρ2 169 [some (am_r 110), none] [] hm' (ak_qi Q X) → ak_MI e 1 (d + 441) ρ2 237 [am_r 110] hm Q X
/-- a text refused by both -/
def ak_TW (e : ak_X3) (d : Nat) (ρ2 : List Nat) (u p : Nat) (hc hm : ak_S) (hc' : ak_S) : Prop := ∃ (hc1 hm1 hm' : ak_S), ak_fF u hc hc1 ∧ ak_fL p hm hm1 ∧ hm1.1 110 0 = 0 ∧ hm1.1 110 2 = 0 ∧ ak_WR u p hc1 hm1 hc' hm' ∧ ∀ (Q : Int → ak_S → Prop) (X : Nat → ak_S → Prop), ak_W0 e 1 (d + 440) 237 ρ2 169 [some (am_r 110), none] [] hm' (ak_qi Q X) → ak_MI e 1 (d + 441) ρ2 237 [am_r 110] hm Q X
theorem lk_trans {ρ0 ρ3 ρ4 : Nat} (hu : u = 0 ∨ u = 1) (hn : hc.1 3 1 = (n : Int)) (hn2 : n ≤ 6000) (hb : ∀ k, k < n → -128 ≤ hc.1 4 k ∧ hc.1 4 k < 128) (hk : ∀ k, k < 24 → hc.2.1 5 k = ak_kws.getD k 0)
    (hus : hm.1 110 3 = (us : Int)) (hp : p + us = 1) (hn1 : hm.1 110 2 = (n : Int)) (hb1 : ∀ k, k < n → hm.1 111 k = hc.1 4 k % 256) (hkeys : ∀ k, k < 192 → hm.1 137 k = ak_keys.getD k 0) :
    ak_MV e 0 (d + 441) [ρ0, ak_T u, ak_T u + 1, ρ3, ρ4] 134 [am_r (ak_T u)] hc (fun h1 => ak_MV e 0 (d + 441) [ρ0, ak_T u, ak_T u + 1, ρ3, ρ4] 122 [am_r 3] h1 (fun h2 => ak_MV e 0 (d + 441) [ρ0, ak_T u, ak_T u + 1, ρ3, ρ4] 13 [am_r 2] h2 (ak_TR e d ρ2 u p n hc hm) (fun ex h => ex = 0 ∧ ak_TW e d ρ2 u p hc hm h)) (fun _ _ => False)) (fun _ _ => False) := by
  have hT : ak_T u = 9 ∨ ak_T u = 87 := by unfold ak_T; omega
  refine am_s134 (d := d + 439) hu ?_
  have c4 : (ak_clr u hc).1 4 = hc.1 4 := funext fun k => ak_clr_I 4 k (by omega)
  refine am_s122 (d := d + 435) ((ak_clr_I 3 1 (by omega)).trans hn) hn2 (fun k hk => by rw [c4]; exact hb k hk) (fun k hk2 => (ak_clr_J 5 k (by omega)).trans (hk k hk2)) (fun h2 m L => ?_)
  obtain ⟨l1, l2, l3, l4, l5, ⟨l6, l7, l8, l9⟩, l10, l11, l12⟩ := L
  rw [c4] at l3 l4 l5
  obtain ⟨v1, v2, v3, v4, v5, v6, v7, v8⟩ := ak_clr_v (u := u) (hc := hc)
  have f : ∀ q k, ak_T u ≤ q → h2.1 q k = (ak_clr u hc).1 q k := fun q k hq => l10 q k (by omega) (by omega) (by omega)
  obtain ⟨h1, m1, m2, m3, m4, m5, m6, m7, m8, m9, m10, m11, m12, go⟩ := am_front (e := e) (d := d + 437) (ρ := ρ2) (b := hc.1 4) hus hp hn1 hn2 (fun k hk => ⟨hb1 k hk, hb k hk⟩) hkeys
  have t0 := l5 0 (Nat.zero_le _)
  have PM0 : ak_PM u p (hc.1 4) n m 0 ak_zF h2 h1 := by
    refine ⟨⟨⟨Nat.zero_le _, by omega, l3, l4⟩, l5, l1, l6, ?_, ?_, l9⟩, m1, m2, m3, ⟨Nat.le_refl _, by decide, ?_, m9, ?_, fun x a1 a2 => absurd a2 (by show ¬ x < 1; omega)⟩, ⟨Nat.zero_le _, ?_, m8, fun i hi => absurd hi (Nat.not_lt_zero _)⟩, ⟨Nat.zero_le _, ?_, m7, fun i hi => absurd hi (Nat.not_lt_zero _)⟩, ?_, m6, ?_, ?_, ?_, m10, by decide⟩
    · rw [l7]; exact t0.2.1
    · rw [l8]; exact t0.1
    · exact (f _ _ (Nat.le_refl _)).trans v1
    · rw [l11 _ _ (by omega) (by omega)]; exact v8
    · exact (f _ _ (Nat.le_refl _)).trans v3
    · exact (f _ _ (Nat.le_refl _)).trans v4
    · exact (f _ _ (by omega)).trans v7
    · exact (f _ _ (by omega)).trans v6
    · exact (f _ _ (by omega)).trans v5
    · exact (f _ _ (Nat.le_refl _)).trans v2
  have fF : ak_fF u hc h2 := by
    refine ⟨fun q k hq => ?_, fun q k hq => ?_, l12⟩
    · unfold ak_pcF ak_pcI at hq
      exact (l10 q k (by omega) (by omega) (by omega)).trans (ak_clr_I q k (by omega))
    · unfold ak_pcG ak_pcJ at hq
      exact (l11 q k (by omega) (by omega)).trans (ak_clr_J q k (by omega))
  have fL : ak_fL p hm h1 := ⟨m11, m12⟩
  have m13 : am_cats [am_r 2] ≤ am_ml am_P 13 := Nat.le_of_ble_eq_true rfl
  have main := lk_text (e := e) (d := d) (ρ2 := ρ2) (ρ0 := ρ0) (ρ3 := ρ3) (ρ4 := ρ4) (hc0 := h2) (hm0 := h1) (B := fun Q X => ak_MI e 1 (d + 441) ρ2 237 [am_r 110] hm Q X) hu m3 (m + 1) 0 ak_zF h2 h1 PM0 (by unfold ak_POT ak_zF; simp) (fun x hx => absurd hx (Nat.not_lt_zero _)) ak_fm_refl (by show m + 1 ≤ 0 + (m + 1); omega) (by decide) go
  refine ak_MV_imp (ak_MV_of m13 (am_k13_0 hu main)) (fun hc' q => ?_) (fun ex hc' q => ?_)
  · obtain ⟨Mt, z, hm', w1, w2, w3, w4, w5, w6⟩ := q
    exact ⟨h2, h1, m, Mt, z, hm', fF, fL, m5, m4, w5, w1, w2, w3, w4, w6⟩
  · obtain ⟨rfl, hm', w1, w2⟩ := q
    exact ⟨rfl, h2, h1, hm', fF, fL, m5, m4, w1, w2⟩
end FRNT
