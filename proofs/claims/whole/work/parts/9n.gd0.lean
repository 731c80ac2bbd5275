/-! guards and ons: what is made; lists of ons -/
section GD0
variable {e : ak_X3} {d dd dm u p : Nat} {b : Nat → Int} {n m lv o Mt : Nat} {D : Nat → Nat} {z z' z1 z2 zA za zb : Nat → Nat} {hc hm hc0 hm0 hc1 hm1 hc2 hm2 hcb hmb : ak_S} {ρ : List Nat} {C M : Nat → Nat → Int}
/-- how long a keyword is -/
theorem ak_kidx_at {w : Int} : ∀ (l : List Int) (k : Int), 0 ≤ k → ∀ j : Nat, ak_kidx w l k = 200 + k + (j : Int) → l.getD j 0 = w ∨ l.length ≤ j
  | [], _, _, j, _ => Or.inr (Nat.zero_le _)
  | x :: r, k, hk, j, h => by
    unfold ak_kidx at h
    split at h
    · rename_i q
      have : j = 0 := by omega
      subst this
      exact Or.inl q
    · have g : ∀ (l : List Int) (k : Int), 0 ≤ k → ak_kidx w l k = 2 ∨ 200 + k ≤ ak_kidx w l k := by
        intro l
        induction l with
        | nil => intro k _; exact Or.inl rfl
        | cons x r ih =>
          intro k hk
          unfold ak_kidx
          split
          · exact Or.inr (by omega)
          · rcases ih (k + 1) (by omega) with q | q
            · exact Or.inl q
            · exact Or.inr (by omega)
      have g1 := g r (k + 1) (by omega)
      cases j with
      | zero => exfalso; omega
      | succ j =>
        have h2 := ak_kidx_at (w := w) r (k + 1) (by omega) j (by omega)
        rcases h2 with h2 | h2
        · exact Or.inl h2
        · exact Or.inr (by show r.length + 1 ≤ j + 1; omega)
theorem ak_kd_key {i : Nat} (h : 200 ≤ ak_kd b n i) : i < n ∧ (∀ k, k < ak_nx b n i - i → ak_isL (b (i + k))) ∧ ak_kd b n i = ak_kidx (ak_pk b i (ak_nx b n i - i)) ak_kws 0 := by
  unfold ak_kd at h ⊢
  by_cases hi : n ≤ i
  · rw [if_pos hi] at h; exact absurd h (by decide)
  · rw [if_neg hi] at h ⊢
    by_cases hl : ak_lB (b i) = true
    · have e4 : ak_nx b n i = ak_end ak_lB b n i := by unfold ak_nx; rw [if_neg hi, if_pos hl]
      rw [if_pos hl] at h ⊢
      by_cases h8 : 8 < ak_end ak_lB b n i - i
      · rw [if_pos h8] at h; exact absurd h (by decide)
      · rw [if_neg h8, e4]
        have hnx := ak_nx_le (b := b) (show i < n by omega)
        refine ⟨by omega, fun k hk => ?_, rfl⟩
        exact ak_lB_iff.mp (ak_run_in (P := ak_lB) (b := b) (n - i) i (i + k) (by omega) (by unfold ak_end at hk; omega))
    · rw [if_neg hl] at h
      exfalso
      split at h
      · split at h <;> exact absurd h (by decide)
      · split at h
        · exact absurd h (by decide)
        · split at h
          · rename_i hs
            have := ak_sgs_rng _ (List.elem_iff.mp hs)
            omega
          · exact absurd h (by decide)
theorem ak_key_len {i : Nat} {w : Int} {j q : Nat} (h : ak_kd b n i = 200 + (j : Int)) (hj : j < 24) (hw : ak_kws.getD j 0 = w) (hq : (32 : Int) ^ q ≤ w) : q + 1 ≤ ak_nx b n i - i := by
  obtain ⟨h1, h2, h3⟩ := ak_kd_key (b := b) (n := n) (i := i) (by omega)
  rw [h3] at h
  have h4 := ak_kidx_at (w := ak_pk b i (ak_nx b n i - i)) ak_kws 0 (Int.le_refl _) j (by omega)
  have h5 : ak_kws.length = 24 := rfl
  have h6 : w = ak_pk b i (ak_nx b n i - i) := by
    rcases h4 with h4 | h4
    · exact hw.symm.trans h4
    · omega
  have h7 := ak_pk_in (b := b) (i := i) (ak_nx b n i - i) h2
  rcases Nat.lt_or_ge q (ak_nx b n i - i) with g | g
  · exact g
  · exfalso
    have h8 : (32 : Int) ^ (ak_nx b n i - i) ≤ 32 ^ q := by
      have := Nat.pow_le_pow_right (n := 32) (by decide) g
      have h9 : ∀ k : Nat, (32 : Int) ^ k = ((32 ^ k : Nat) : Int) := fun k => by rw [Int.natCast_pow]; rfl
      rw [h9, h9]
      omega
    omega
theorem ak_st_key (c : ak_cc b n m hc (z 0)) {j q : Nat} {w : Int} (h : ak_kd b n (ak_st b n (z 0)) = 200 + (j : Int)) (hj : j < 24) (hw : ak_kws.getD j 0 = w) (hq : (32 : Int) ^ q ≤ w) : ak_st b n (z 0) + (q + 1) ≤ ak_st b n (z 0 + 1) := by
  have h0 := ak_cc_lt c (by omega)
  have h1 := c.1.2.2.2 (z 0) h0
  have h2 := ak_nx_le (b := b) h1
  have h3 := ak_end_le (P := ak_wB) (b := b) h2.2
  have h4 := ak_key_len h hj hw hq
  show ak_st b n (z 0) + (q + 1) ≤ ak_end ak_wB b n (ak_nx b n (ak_st b n (z 0)))
  omega
/-- a guard more -/
def ak_ng (h : ak_S) (u g i0 : Nat) : ak_S := (am_up (am_up (am_up (am_up h.1 (ak_T u + 4) g (i0 : Int)) (ak_T u + 5) g (-1)) (ak_T u + 6) g (-1)) (ak_T u + 1) 6 ((g + 1 : Nat) : Int), h.2)
theorem am_s5 (hu : u = 0 ∨ u = 1) {Q : Int → ak_S → Prop} {X : Nat → ak_S → Prop} {g i0 : Nat} (h3 : hc.1 (ak_T u + 1) 6 = (g : Int)) (h4 : hc.1 (ak_T u + 1) 11 = (i0 : Int)) (hg : g < 500) (w : Q (g : Int) (ak_ng hc u g i0)) : ak_MI e 0 (d + 1) ρ 5 [am_r (ak_T u + 1)] hc Q X := by
  have hml : am_cats [am_r (ak_T u + 1)] ≤ am_ml am_P 5 := Nat.le_of_ble_eq_true rfl
  refine ak_MI_of hml (am_k5_0 hu ?_)
  have e2 : am_w32 (((g + 1 : Nat) : Int) - 1) = (g : Int) := by rw [ak_w _ (by omega)]; omega
  rw [h3, h4, ak_natn, ak_wj (show g < 1000000 by omega), e2]
  exact ⟨fun _ => ⟨by omega, by omega, by omega, w⟩, fun q => absurd q (by omega)⟩
theorem ak_ng_at {g i0 q k : Nat} (h1 : ¬ (ak_T u + 4 ≤ q ∧ q ≤ ak_T u + 6 ∧ k = g)) (h2 : ¬ (q = ak_T u + 1 ∧ k = 6)) : (ak_ng hc u g i0).1 q k = hc.1 q k := by
  unfold ak_ng
  dsimp only
  rw [ak_up_out (by omega), ak_up_out (by omega), ak_up_out (by omega), ak_up_out (by omega)]
theorem ak_PI_ng (hu : u = 0 ∨ u = 1) (w : ak_PI u p b n m lv D o Mt z hc hm) {i0 : Nat} : ak_PI u p b n m lv D o Mt (ak_zu z 3 (z 3 + 1)) (ak_ng hc u (z 3) i0) hm := by
  have hT := ak_T_in hu
  obtain ⟨w9, w10, w11, w12, w13, w14, w15, w16⟩ := w.2.2.2.2.2.2.2.2
  refine ak_PI_fr hu w (fun q k h1 h2 h3 => ak_ng_at (by omega) (by omega)) rfl (fun q k _ _ _ => rfl) rfl rfl rfl ((ak_ng_at (by omega) (by omega)).trans w9) w10 ?_ ((ak_ng_at (by omega) (by omega)).trans w12) ((ak_ng_at (by omega) (by omega)).trans w13) w14 w15
  simp [ak_ng, am_up, ak_zu]
theorem ak_ext_ng (hu : u = 0 ∨ u = 1) {i0 : Nat} : ak_ext u p z (ak_zu z 3 (z 3 + 1)) hc hm (ak_ng hc u (z 3) i0) hm := by
  have hT := ak_T_in hu
  refine ak_ext_of (fun i _ => ak_zu_le (Nat.le_succ _) i) (fun q k h1 h2 h3 h4 h5 h6 _ => ak_ng_at (by omega) (by omega)) (fun q k _ _ _ _ _ _ => rfl) (fun j h1 h2 => absurd (show j < z 4 from h2) (by omega)) ⟨fun q k h => ?_, fun q k _ => rfl⟩ ak_pM_refl (ak_ng_at (by omega) (by omega)) rfl rfl
  refine ak_ng_at (fun g => h (Or.inr (Or.inr (Or.inr (by omega))))) (fun g => h (Or.inr (Or.inr (Or.inr (by omega)))))
/-- an on more -/
def ak_newon (h : ak_S) (u i : Nat) (k w s g : Int) : ak_S := (am_up (am_up (am_up (am_up (am_up h.1 (ak_T u + 7) i k) (ak_T u + 8) i w) (ak_T u + 9) i s) (ak_T u + 10) i g) (ak_T u + 1) 11 ((i + 1 : Nat) : Int), h.2)
theorem am_s6 (hu : u = 0 ∨ u = 1) {Q : ak_S → Prop} {X : Nat → ak_S → Prop} {i : Nat} {g k w s : Int} (h2 : hc.1 (ak_T u + 1) 2 = s) (h4 : hc.1 (ak_T u + 1) 11 = (i : Int)) (hi : i < 1000) (wq : Q (ak_newon hc u i k w s g)) : ak_MV e 0 (d + 1) ρ 6 [am_r (ak_T u + 1), am_i g, am_i k, am_i w] hc Q X := by
  have hml : am_cats [am_r (ak_T u + 1), am_i g, am_i k, am_i w] ≤ am_ml am_P 6 := Nat.le_of_ble_eq_true rfl
  refine ak_MV_of hml (am_k6_0 hu ?_)
  rw [h2, h4, ak_natn, ak_wj (show i < 1000000 by omega)]
  exact ⟨fun q => absurd q (by omega), fun _ => ⟨by omega, by omega, by omega, by omega, wq⟩⟩
theorem ak_newon_at {i q j : Nat} {k w s g : Int} (h1 : ¬ (ak_T u + 7 ≤ q ∧ q ≤ ak_T u + 10 ∧ j = i)) (h2 : ¬ (q = ak_T u + 1 ∧ j = 11)) : (ak_newon hc u i k w s g).1 q j = hc.1 q j := by
  unfold ak_newon
  dsimp only
  rw [ak_up_out (by omega), ak_up_out (by omega), ak_up_out (by omega), ak_up_out (by omega), ak_up_out (by omega)]
theorem ak_PI_no (hu : u = 0 ∨ u = 1) (wi : ak_PI u p b n m lv D o Mt z hc hm) {k w s g : Int} : ak_PI u p b n m lv D o Mt (ak_zu z 4 (z 4 + 1)) (ak_newon hc u (z 4) k w s g) hm := by
  have hT := ak_T_in hu
  obtain ⟨w9, w10, w11, w12, w13, w14, w15, w16⟩ := wi.2.2.2.2.2.2.2.2
  refine ak_PI_fr hu wi (fun q k h1 h2 h3 => ak_newon_at (by omega) (by omega)) rfl (fun q k _ _ _ => rfl) rfl rfl rfl ((ak_newon_at (by omega) (by omega)).trans w9) w10 ((ak_newon_at (by omega) (by omega)).trans w11) ?_ ((ak_newon_at (by omega) (by omega)).trans w13) w14 w15
  simp [ak_newon, am_up, ak_zu]
/-- seen from before the guard -/
theorem ak_ext_no (hu : u = 0 ∨ u = 1) (w : ak_ext u p z z1 hc0 hm0 hc hm) {k wd s : Int} {g : Nat} (hg : z 3 ≤ g) (hg2 : g < z1 3) : ak_ext u p z (ak_zu z1 4 (z1 4 + 1)) hc0 hm0 (ak_newon hc u (z1 4) k wd s (g : Int)) hm := by
  have hT := ak_T_in hu
  have le := ak_ext_le w
  obtain ⟨e1, ⟨a1, a2, a3, a4, a5⟩, e3, e4, e5, e6, e7, e8, e9, e10⟩ := w
  have f : ∀ q j, ¬ (ak_T u + 7 ≤ q ∧ q ≤ ak_T u + 10 ∧ j = z1 4) → ¬ (q = ak_T u + 1 ∧ j = 11) → (ak_newon hc u (z1 4) k wd s (g : Int)).1 q j = hc.1 q j := fun q j h1 h2 => ak_newon_at h1 h2
  have s10 : (ak_newon hc u (z1 4) k wd s (g : Int)).1 (ak_T u + 10) (z1 4) = (g : Int) := by simp [ak_newon, am_up]
  refine ⟨fun i hi => Nat.le_trans (e1 i hi) (ak_zu_le (Nat.le_succ _) i), ⟨fun j h1 h2 => ?_, fun j h1 h2 => ?_, fun j h1 h2 => ?_, fun j h1 h2 => ?_, a5⟩, fun j h1 h2 => ?_, ⟨fun q j h => ?_, fun q j h => e4.2 q j h⟩, e5, (f _ _ (by omega) (by omega)).trans e6, fun j => ⟨(f _ _ (by omega) (by omega)).trans (e7 j).1, (f _ _ (by omega) (by omega)).trans (e7 j).2⟩, e8, e9, e10⟩
  · obtain ⟨x1, x2⟩ := a1 j h1 h2
    exact ⟨(f _ _ (by omega) (by omega)).trans x1, (f _ _ (by omega) (by omega)).trans x2⟩
  · obtain ⟨x1, x2, x3⟩ := a2 j h1 h2
    exact ⟨(f _ _ (by omega) (by omega)).trans x1, (f _ _ (by omega) (by omega)).trans x2, (f _ _ (by omega) (by omega)).trans x3⟩
  · obtain ⟨x1, x2, x3, x4⟩ := a3 j h1 h2
    exact ⟨(f _ _ (by omega) (by omega)).trans x1, (f _ _ (by omega) (by omega)).trans x2, (f _ _ (by omega) (by omega)).trans x3, (f _ _ (by omega) (by omega)).trans x4⟩
  · obtain ⟨x1, x2, x3, x4, x5⟩ := a4 j h1 h2
    exact ⟨(f _ _ (by omega) (by omega)).trans x1, (f _ _ (by omega) (by omega)).trans x2, (f _ _ (by omega) (by omega)).trans x3, x4, x5⟩
  · have h2' : j < z1 4 + 1 := h2
    show (z 3 : Int) ≤ _ ∧ _ < (z1 3 : Int)
    by_cases hj : j = z1 4
    · subst hj
      rw [s10]
      omega
    · rw [f _ _ (by omega) (by omega)]
      exact e3 j h1 (by omega)
  · rw [f _ _ (fun g => h (Or.inr (Or.inr (Or.inr (by omega))))) (fun g => h (Or.inr (Or.inr (Or.inr (by omega)))))]
    exact e4.1 q j h
/-- what was made after the guard isn't touched by an on of it -/
theorem ak_mid_no (w : ak_mid u p za zb hcb hmb z1 hc hm) {k wd s : Int} {g : Nat} (hg : g < za 3) : ak_mid u p za zb hcb hmb (ak_zu z1 4 (z1 4 + 1)) (ak_newon hc u (z1 4) k wd s (g : Int)) hm := by
  obtain ⟨w1, ⟨a1, a2, a3, a4, a5⟩, w3⟩ := w
  have l4 := w1 4 (by decide)
  have f : ∀ q j, ¬ (ak_T u + 7 ≤ q ∧ q ≤ ak_T u + 10 ∧ j = z1 4) → ¬ (q = ak_T u + 1 ∧ j = 11) → (ak_newon hc u (z1 4) k wd s (g : Int)).1 q j = hc.1 q j := fun q j h1 h2 => ak_newon_at h1 h2
  have s10 : (ak_newon hc u (z1 4) k wd s (g : Int)).1 (ak_T u + 10) (z1 4) = (g : Int) := by simp [ak_newon, am_up]
  refine ⟨fun i hi => Nat.le_trans (w1 i hi) (ak_zu_le (Nat.le_succ _) i), ⟨fun j h1 h2 => ?_, fun j h1 h2 => ?_, fun j h1 h2 => ?_, fun j h1 h2 => ?_, a5⟩, fun j h1 h2 => ?_⟩
  · obtain ⟨x1, x2⟩ := a1 j h1 h2
    exact ⟨(f _ _ (by omega) (by omega)).trans x1, (f _ _ (by omega) (by omega)).trans x2⟩
  · obtain ⟨x1, x2, x3⟩ := a2 j h1 h2
    exact ⟨(f _ _ (by omega) (by omega)).trans x1, (f _ _ (by omega) (by omega)).trans x2, (f _ _ (by omega) (by omega)).trans x3⟩
  · obtain ⟨x1, x2, x3, x4⟩ := a3 j h1 h2
    exact ⟨(f _ _ (by omega) (by omega)).trans x1, (f _ _ (by omega) (by omega)).trans x2, (f _ _ (by omega) (by omega)).trans x3, (f _ _ (by omega) (by omega)).trans x4⟩
  · obtain ⟨x1, x2, x3, x4, x5⟩ := a4 j h1 h2
    exact ⟨(f _ _ (by omega) (by omega)).trans x1, (f _ _ (by omega) (by omega)).trans x2, (f _ _ (by omega) (by omega)).trans x3, x4, x5⟩
  · have h2' : j < z1 4 + 1 := h2
    by_cases hj : j = z1 4
    · subst hj
      rw [s10]
      omega
    · rw [f _ _ (by omega) (by omega)]
      exact w3 j h1 (by omega)
/-- ons from an earlier row on -/
theorem ak_T3_low {T : Nat} {x : Int} {g lt i i' a c : Nat} (h : ak_T3 C M T p 3 x g lt i a c) (hi : i' ≤ i) (hn : ∀ j : Nat, i' ≤ j → j < i → C (T + 10) j ≠ (g : Int)) : ak_T3 C M T p 3 x g lt i' a c := by
  have h2 : ak_Ph C M T p (ak_T3 C M T p) 3 x g lt i a c := ak_T3_open h
  refine ak_T3_fold ?_
  rcases h2 with ⟨h3, h4, h5⟩ | ⟨y, i1, c1, h3, h4, h5, h6, h7, h8⟩
  · refine Or.inl ⟨h3, h4, fun j g1 g2 => ?_⟩
    rcases Nat.lt_or_ge j i with q | q
    · exact hn j g1 q
    · exact h5 j q g2
  · refine Or.inr ⟨y, i1, c1, h3, by omega, h5, h6, fun j g1 g2 => ?_, h8⟩
    rcases Nat.lt_or_ge j i with q | q
    · exact hn j g1 q
    · exact h7 j q g2
/-- a list of ons -/
def ak_OS (u p o lt g : Nat) (z z1 : Nat → Nat) (hc1 hm1 : ak_S) (x1 x2 : Int) : Prop :=
  (x1 = -1 ∧ x2 = -1 ∧ z1 1 = z 1 ∧ z1 4 = z 4) ∨ ∃ l : Nat, x2 = ((9000 * p + l : Nat) : Int) ∧ z 2 ≤ l ∧ l < z1 2 ∧ 0 ≤ x1 ∧ hm1.1 119 (9000 * p + l) = -1 ∧
    ∀ C M, ak_fut u p z z1 x2 hc1.1 hm1.1 C M → ∀ G i c, 20 ≤ G + o → G ≤ 21 → z1 2 - z 2 + 21 ≤ i + o → ak_T3 C M (ak_T u) p 3 (M 119 (9000 * p + l)) g (lt + 1000 * G + 32000 * i) (z1 4) (z1 1) c → ak_T3 C M (ak_T u) p 3 x1 g (lt + 1000 * G + 32000 * i) (z 4) (z 1) c
theorem ak_OS_end {lt g : Nat} {x1 x2 : Int} (L : ak_OS u p o lt g z z1 hc1 hm1 x1 x2) (ft : ak_fut u p z z1 (-1) hc1.1 hm1.1 C M) (hn : ∀ j : Nat, z1 4 ≤ j → (j : Int) < C (ak_T u + 1) 11 → C (ak_T u + 10) j ≠ (g : Int)) {G i : Nat} (hG : 20 ≤ G + o) (hG2 : G ≤ 21) (hi : z1 2 - z 2 + 21 ≤ i + o) : ak_T3 C M (ak_T u) p 3 x1 g (lt + 1000 * G + 32000 * i) (z 4) (z 1) (z1 1) := by
  have base : ak_T3 C M (ak_T u) p 3 (-1) g (lt + 1000 * G + 32000 * i) (z1 4) (z1 1) (z1 1) := ak_T3_fold (Or.inl ⟨rfl, rfl, hn⟩)
  rcases L with ⟨rfl, rfl, e1, e4⟩ | ⟨l, e2, g1, g2, g3, g4, T⟩
  · rw [← e4]
    rw [e1] at base ⊢
    exact base
  · obtain ⟨w1, w2, w3⟩ := ft
    have e5 : M 119 (9000 * p + l) = -1 := (w1.2.2.2.2 119 _ (by decide) (by decide) (by omega) (by omega) (by omega)).trans g4
    exact T C M ⟨ak_agr_sub w1 ⟨Nat.le_refl _, Nat.le_refl _, Nat.le_refl _, Nat.le_refl _, Nat.le_refl _⟩ ⟨Nat.le_refl _, Nat.le_refl _, Nat.le_refl _, Nat.le_refl _, Nat.le_refl _⟩ (Or.inr (Or.inl (by omega))), w2, w3⟩ G i (z1 1) hG hG2 hi (by rw [e5]; exact base)
theorem ak_fut_mid_nx {x v : Int} {l : Nat} (w : ak_fut u p z z2 x hc2.1 (am_up hm2.1 119 l v) C M) (md : ak_mid u p z z1 hc1 hm1 z2 hc2 hm2) (lz : z 4 ≤ z1 4) (hx : ((9000 * p + z1 2 : Nat) : Int) ≤ x) : ak_fut u p z z1 (l : Int) hc1.1 hm1.1 C M := by
  obtain ⟨⟨a1, a2, a3, a4, a5⟩, w2, w3⟩ := w
  obtain ⟨l0, ⟨b1, b2, b3, b4, b5⟩, m3⟩ := md
  have l1 := l0 1 (by decide)
  have l2 := l0 2 (by decide)
  have l3 := l0 3 (by decide)
  have l4 := l0 4 (by decide)
  have l5 := l0 5 (by decide)
  have l7 := l0 7 (by decide)
  refine ⟨⟨fun j h1 h2 => ?_, fun j h1 h2 => ?_, fun j h1 h2 => ?_, fun j h1 h2 => ?_, fun q j h1 h2 h3 h4 h5 => ?_⟩, by omega, fun j h1 h2 => ?_⟩
  · exact ⟨(a1 j h1 (by omega)).1.trans (b1 j h1 h2).1, (a1 j h1 (by omega)).2.trans (b1 j h1 h2).2⟩
  · obtain ⟨x1, x2, x3⟩ := a2 j h1 (by omega)
    obtain ⟨y1, y2, y3⟩ := b2 j h1 h2
    exact ⟨x1.trans y1, x2.trans y2, x3.trans y3⟩
  · obtain ⟨x1, x2, x3, x4⟩ := a3 j h1 (by omega)
    obtain ⟨y1, y2, y3, y4⟩ := b3 j h1 h2
    exact ⟨x1.trans y1, x2.trans y2, x3.trans y3, x4.trans y4⟩
  · obtain ⟨x1, x2, x3, x4, x5⟩ := a4 j h1 (by omega)
    obtain ⟨y1, y2, y3, y4, y5⟩ := b4 j h1 h2
    exact ⟨x1.trans y1, x2.trans y2, x3.trans y3, (x4.trans (ak_up_out (by omega))).trans y4, (x5.trans (ak_up_out (by omega))).trans y5⟩
  · exact ((a5 q j h1 h2 h3 (by omega) (by omega)).trans (ak_up_out (by omega))).trans (b5 q j h1 h2 h3 h4 (by omega))
  · rcases Nat.lt_or_ge j (z2 4) with g | g
    · rw [(a3 j (by have := l0 4 (by decide); omega) g).2.2.2]
      have := m3 j h1 g
      omega
    · have := w3 j g h2
      omega
theorem ak_OS_add {lt g y : Nat} {x1 x2 : Int} (lz : z 1 ≤ z1 1 ∧ z 2 ≤ z1 2 ∧ z 3 ≤ z1 3 ∧ z 4 ≤ z1 4 ∧ z 5 ≤ z1 5) (L : ak_OS u p o lt g z z1 hc1 hm1 x1 x2) (md : ak_mid u p z z1 hc1 hm1 z2 hc2 hm2) (y1 : z1 2 ≤ y) (y2 : y < z2 2) (y3 : hm2.1 119 (9000 * p + y) = -1)
    (el : ∀ C M, ak_fut u p z1 z2 ((9000 * p + y : Nat) : Int) hc2.1 hm2.1 C M → ∀ G i c, 20 ≤ G + o → G ≤ 21 → z2 2 - z1 2 + 21 ≤ i + o → ak_T3 C M (ak_T u) p 3 (M 119 (9000 * p + y)) g (lt + 1000 * G + 32000 * i) (z2 4) (z2 1) c → ak_T3 C M (ak_T u) p 3 ((9000 * p + y : Nat) : Int) g (lt + 1000 * G + 32000 * i) (z1 4) (z1 1) c) :
    (x1 = -1 ∧ x2 = -1 ∧ ak_OS u p o lt g z z2 hc2 hm2 ((9000 * p + y : Nat) : Int) ((9000 * p + y : Nat) : Int)) ∨
    (0 ≤ x1 ∧ ∃ l : Nat, x2 = ((9000 * p + l : Nat) : Int) ∧ z 2 ≤ l ∧ l < z1 2 ∧ ak_OS u p o lt g z z2 hc2 (am_up hm2.1 119 (9000 * p + l) ((9000 * p + y : Nat) : Int), hm2.2) x1 ((9000 * p + y : Nat) : Int)) := by
  rcases L with ⟨q1, q2, q3, q4⟩ | ⟨l, g0, g1, g2, g3, g4, T⟩
  · refine Or.inl ⟨q1, q2, Or.inr ⟨y, rfl, by omega, y2, by omega, y3, fun C M ft G i c hG hG2 hi t3 => ?_⟩⟩
    have key := el C M (ak_fut_sub ft (by omega)) G i c hG hG2 (by omega) t3
    rw [← q3, ← q4]
    exact key
  · subst g0
    refine Or.inr ⟨g3, l, rfl, g1, g2, Or.inr ⟨y, rfl, by omega, y2, g3, (ak_up_out (f := hm2.1) (p := 119) (k := 9000 * p + l) (q := 119) (j := 9000 * p + y) (v := ((9000 * p + y : Nat) : Int)) (by omega)).trans y3, fun C M ft G i c hG hG2 hi t3 => ?_⟩⟩
    have key := el C M (ak_fut_nx (ak_fut_sub ft (by omega)) (Or.inl (by omega))) G i c hG hG2 (by omega) t3
    have e5 : M 119 (9000 * p + l) = ((9000 * p + y : Nat) : Int) := (ft.1.2.2.2.2 119 _ (by decide) (by decide) (by omega) (by have := md.1 2 (by decide); omega) (by omega)).trans (ak_up_at (f := hm2.1) (q := 119) (k := 9000 * p + l) (v := ((9000 * p + y : Nat) : Int)))
    have lm := md.1 2 (by decide)
    exact T C M (ak_fut_mid_nx ft md lz.2.2.2.1 (by omega)) G i c hG hG2 (by omega) (by rw [e5]; exact key)
end GD0
