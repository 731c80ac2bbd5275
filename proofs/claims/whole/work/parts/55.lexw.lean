/-! the one's words, numerals, signs -/
section LEXW
variable {e : ak_X3} {d : Nat} {ρ : List Nat} {h : ak_S} {n t : Nat}
theorem ak_wsub {i j : Nat} (h : i ≤ j) (hj : j ≤ 6000) : am_w32 ((j : Int) - (i : Int)) = ((j - i : Nat) : Int) := by
  rw [ak_w ((j : Int) - (i : Int)) (by omega)]
  omega
theorem ak_pow_le {x : Int} {m k : Nat} (h : x < 32 ^ m) (hk : m ≤ k) : x < 32 ^ k := by
  have h1 : (32 : Int) ^ m ≤ 32 ^ k := by
    have h2 : (32 : Nat) ^ m ≤ 32 ^ k := Nat.pow_le_pow_right (by omega) hk
    have e1 : ((32 ^ m : Nat) : Int) = (32 : Int) ^ m := by push_cast; rfl
    have e2 : ((32 ^ k : Nat) : Int) = (32 : Int) ^ k := by push_cast; rfl
    rw [← e1, ← e2]
    exact Int.ofNat_le.mpr h2
  omega
theorem am_s124 {Q : Int → ak_S → Prop} {X : Nat → ak_S → Prop} {i : Nat} (hn : h.1 3 1 = (n : Int)) (hn2 : n ≤ 6000) (hi : i < n) (hl : ak_lB (h.1 4 i) = true) (ht : h.1 3 6 = (t : Int)) (ht2 : t ≤ 6000) (hk : ∀ k, k < 24 → h.2.1 5 k = ak_kws.getD k 0)
    (w : ∀ v, (ak_end ak_lB (h.1 4) n i - i ≤ 8 → v = ak_pk (h.1 4) i (ak_end ak_lB (h.1 4) n i - i)) → Q ((ak_end ak_lB (h.1 4) n i : Nat) : Int) (ak_add h t (if 8 < ak_end ak_lB (h.1 4) n i - i then 1 else ak_kidx (ak_pk (h.1 4) i (ak_end ak_lB (h.1 4) n i - i)) ak_kws 0) (i : Int) v)) :
    ak_MI e 0 (d + 2) ρ 124 [am_r 3, am_i (i : Int)] h Q X := by
  have hel := ak_end_le (P := ak_lB) (b := h.1 4) (n := n) (i := i) (by omega)
  generalize hE : ak_end ak_lB (h.1 4) n i = E at w hel
  have l41 : ∀ (v : Int), (E - i ≤ 11 → v = ak_pk (h.1 4) i (E - i)) → ak_W0 e 0 (d + 1) 124 ρ 41 [some (am_r 3), some (am_i (i : Int)), some (am_i (E : Int)), some (am_l v), none] [] h (ak_qi Q X) := by
    intro v hv
    have e1 := ak_wsub hel.1 (show E ≤ 6000 by omega)
    refine am_k124_41 ⟨fun h0 => ?_, fun h0 => ?_⟩
    · rw [e1] at h0
      clear e1
      have w2 := w v (fun _ => hv (by omega))
      rw [if_neg (by omega), ← hv (by omega)] at w2
      exact am_s125 hk (am_s123 ht ht2 w2)
    · rw [e1] at h0
      clear e1
      have w2 := w v (fun z => absurd z (by omega))
      rw [if_pos (by omega)] at w2
      exact am_s123 ht ht2 w2
  have lp : ∀ (c j : Nat) (v : Int), j + c = n → i ≤ j → (∀ k, i ≤ k → k < j → ak_isL (h.1 4 k)) → ak_end ak_lB (h.1 4) n j = E → (j - i ≤ 11 → v = ak_pk (h.1 4) i (j - i)) →
      ak_W0 e 0 (d + 1) 124 ρ 4 [some (am_r 3), some (am_i (i : Int)), some (am_i (j : Int)), some (am_l v), none] [] h (ak_qi Q X) := by
    intro c
    induction c with
    | zero =>
      intro j v hj hij hall hE2 hv
      have hjn : j = n := by omega
      refine am_k124_4 ⟨fun _ => ?_, fun h0 => absurd h0 (by rw [hn]; omega)⟩
      have : E = j := by rw [← hE2]; exact ak_end_ge (by omega)
      subst this
      exact l41 v hv
    | succ c ih =>
      intro j v hj hij hall hE2 hv
      have hjn : j < n := by omega
      have bj : 0 ≤ (j : Int) ∧ (j : Int) < 6000 := by omega
      refine am_k124_4 ⟨fun h0 => absurd h0 (by rw [hn]; omega), fun _ => ⟨bj, am_s131 (fun hp => ⟨fun z => absurd z (by decide), fun _ => ⟨bj, ?_⟩⟩) (fun hp => ⟨fun _ => ?_, fun z => absurd rfl z⟩)⟩⟩
      · rw [ak_natn] at hp ⊢
        have hL := ak_lB_iff.mp hp
        refine am_s130 hL (fun v' hv' => ?_)
        rw [ak_wj (show j < 1000000 by omega)]
        refine ih (j + 1) v' (by omega) (by omega) (fun k k1 k2 => ?_) (by rw [← hE2]; exact (ak_end_yes hjn hp).symm) (fun h11 => ?_)
        · by_cases hkj : k = j
          · subst hkj; exact hL
          · exact hall k k1 (by omega)
        · have hv1 := hv (by omega)
          have hr := ak_pk_in (b := h.1 4) (i := i) (j - i) (fun k hk => hall (i + k) (by omega) (by omega))
          have hr2 := ak_pow_le hr.2 (show j - i ≤ 11 by omega)
          rw [← hv1] at hr hr2
          rw [hv' ⟨hr.1, by rw [show (36028797018963968 : Int) = 32 ^ 11 by decide]; exact hr2⟩, hv1]
          rw [show j + 1 - i = (j - i) + 1 by omega, ak_pk, show i + (j - i) = j by omega]
      · rw [ak_natn] at hp
        have : E = j := by rw [← hE2]; exact ak_end_no hjn hp
        subst this
        exact l41 v hv
  refine ak_MI_of (Nat.le_of_ble_eq_true rfl) (am_k124_0 ?_)
  refine lp (n - i) i 0 (by omega) (Nat.le_refl _) (fun k k1 k2 => absurd k1 (by omega)) hE (fun _ => ?_)
  rw [Nat.sub_self]; rfl
theorem ak_pow10_le {x : Int} {m k : Nat} (h : x < 10 ^ m) (hk : m ≤ k) : x < 10 ^ k := by
  have h1 : (10 : Int) ^ m ≤ 10 ^ k := by
    have h2 : (10 : Nat) ^ m ≤ 10 ^ k := Nat.pow_le_pow_right (by omega) hk
    have e1 : ((10 ^ m : Nat) : Int) = (10 : Int) ^ m := by push_cast; rfl
    have e2 : ((10 ^ k : Nat) : Int) = (10 : Int) ^ k := by push_cast; rfl
    rw [← e1, ← e2]
    exact Int.ofNat_le.mpr h2
  omega
theorem am_s126 {Q : Int → ak_S → Prop} {X : Nat → ak_S → Prop} {i : Nat} (hn : h.1 3 1 = (n : Int)) (hn2 : n ≤ 6000) (hi : i < n) (ht : h.1 3 6 = (t : Int)) (ht2 : t ≤ 6000)
    (w : ∀ v, (ak_end ak_dB (h.1 4) n i - i ≤ 9 → v = ak_nu (h.1 4) i (ak_end ak_dB (h.1 4) n i - i)) → Q ((ak_end ak_dB (h.1 4) n i : Nat) : Int) (ak_add h t (if 9 < ak_end ak_dB (h.1 4) n i - i then 1 else 3) (i : Int) v)) :
    ak_MI e 0 (d + 2) ρ 126 [am_r 3, am_i (i : Int)] h Q X := by
  have hel := ak_end_le (P := ak_dB) (b := h.1 4) (n := n) (i := i) (by omega)
  generalize hE : ak_end ak_dB (h.1 4) n i = E at w hel
  have l47 : ∀ (v : Int), (E - i ≤ 12 → v = ak_nu (h.1 4) i (E - i)) → ak_W0 e 0 (d + 1) 126 ρ 47 [some (am_r 3), some (am_i (i : Int)), some (am_i (E : Int)), some (am_l v), none] [] h (ak_qi Q X) := by
    intro v hv
    have e1 := ak_wsub hel.1 (show E ≤ 6000 by omega)
    refine am_k126_47 ⟨fun h0 => ?_, fun h0 => ?_⟩
    · rw [e1] at h0
      clear e1
      have w2 := w v (fun _ => hv (by omega))
      rw [if_neg (by omega)] at w2
      exact am_s123 ht ht2 w2
    · rw [e1] at h0
      clear e1
      have w2 := w v (fun z => absurd z (by omega))
      rw [if_pos (by omega)] at w2
      exact am_s123 ht ht2 w2
  have lp : ∀ (c j : Nat) (v : Int), j + c = n → i ≤ j → (∀ k, i ≤ k → k < j → ak_isD (h.1 4 k)) → ak_end ak_dB (h.1 4) n j = E → (j - i ≤ 12 → v = ak_nu (h.1 4) i (j - i)) →
      ak_W0 e 0 (d + 1) 126 ρ 4 [some (am_r 3), some (am_i (i : Int)), some (am_i (j : Int)), some (am_l v), none] [] h (ak_qi Q X) := by
    intro c
    induction c with
    | zero =>
      intro j v hj hij hall hE2 hv
      refine am_k126_4 ⟨fun _ => ?_, fun h0 => absurd h0 (by rw [hn]; omega)⟩
      have : E = j := by rw [← hE2]; exact ak_end_ge (by omega)
      subst this
      exact l47 v hv
    | succ c ih =>
      intro j v hj hij hall hE2 hv
      have hjn : j < n := by omega
      have bj : 0 ≤ (j : Int) ∧ (j : Int) < 6000 := by omega
      refine am_k126_4 ⟨fun h0 => absurd h0 (by rw [hn]; omega), fun _ => ⟨bj, am_s132 (fun hp => ⟨fun z => absurd z (by decide), fun _ => ⟨bj, ?_⟩⟩) (fun hp => ⟨fun _ => ?_, fun z => absurd rfl z⟩)⟩⟩
      · rw [ak_natn] at hp ⊢
        have hL := ak_dB_iff.mp hp
        have hL2 : 48 ≤ h.1 4 j ∧ h.1 4 j ≤ 57 := hL
        rw [ak_wj (show j < 1000000 by omega), show am_w32 (h.1 4 j - 48) = h.1 4 j - 48 from ak_w _ (by omega)]
        refine ih (j + 1) _ (by omega) (by omega) (fun k k1 k2 => ?_) (by rw [← hE2]; exact (ak_end_yes hjn hp).symm) (fun h11 => ?_)
        · by_cases hkj : k = j
          · subst hkj; exact hL
          · exact hall k k1 (by omega)
        · have hv1 := hv (by omega)
          have hr := ak_nu_in (b := h.1 4) (i := i) (j - i) (fun k hk => hall (i + k) (by omega) (by omega))
          have hr2 := ak_pow10_le hr.2 (show j - i ≤ 12 by omega)
          rw [← hv1] at hr hr2
          have e12 : (10 : Int) ^ 12 = 1000000000000 := by decide
          rw [e12] at hr2
          rw [show am_w64 (v * 10) = v * 10 from am_w64_id (by omega) (by omega), show am_w64 (v * 10 + (h.1 4 j - 48)) = v * 10 + (h.1 4 j - 48) from am_w64_id (by omega) (by omega), hv1]
          rw [show j + 1 - i = (j - i) + 1 by omega, ak_nu, show i + (j - i) = j by omega]
      · rw [ak_natn] at hp
        have : E = j := by rw [← hE2]; exact ak_end_no hjn hp
        subst this
        exact l47 v hv
  refine ak_MI_of (Nat.le_of_ble_eq_true rfl) (am_k126_0 ?_)
  refine lp (n - i) i 0 (by omega) (Nat.le_refl _) (fun k k1 k2 => absurd k1 (by omega)) hE (fun _ => ?_)
  rw [Nat.sub_self]; rfl
end LEXW
