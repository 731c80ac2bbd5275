/-! the one's tokens, all of them -/
def ak_lfr (h h1 : ak_S) : Prop := (∀ p k, p ≠ 6 → p ≠ 7 → ¬ (p = 3 ∧ 6 ≤ k ∧ k ≤ 9) → h1.1 p k = h.1 p k) ∧ (∀ p k, p ≠ 8 → ¬ (p = 3 ∧ k = 10) → h1.2.1 p k = h.2.1 p k) ∧ h1.2.2 = h.2.2
def ak_tkn (b : Nat → Int) (n : Nat) (h1 : ak_S) (k : Nat) : Prop := h1.1 7 k = ((ak_st b n k : Nat) : Int) ∧ h1.1 6 k = ak_kd b n (ak_st b n k) ∧ ak_vl b n (ak_st b n k) (h1.2.1 8 k)
def ak_lx (h h1 : ak_S) (n t i : Nat) : Prop := h1.1 3 6 = (t : Int) ∧ t ≤ i ∧ i ≤ n ∧ ak_st (h.1 4) n t = ak_end ak_wB (h.1 4) n i ∧ (∀ k, k < t → ak_st (h.1 4) n k < n ∧ ak_tkn (h.1 4) n h1 k) ∧ ak_lfr h h1
def ak_lexed (h h1 : ak_S) (n m : Nat) : Prop := h1.1 3 6 = ((m + 1 : Nat) : Int) ∧ m ≤ n ∧ ak_st (h.1 4) n m = n ∧ (∀ k, k < m → ak_st (h.1 4) n k < n) ∧ (∀ k, k ≤ m → ak_tkn (h.1 4) n h1 k) ∧
  (h1.1 3 7 = 0 ∧ h1.1 3 8 = h1.1 6 0 ∧ h1.1 3 9 = h1.1 7 0 ∧ h1.2.1 3 10 = h1.2.1 8 0) ∧ ak_lfr h h1
section LEXT
variable {e : ak_X3} {d : Nat} {ρ : List Nat} {h h1 : ak_S} {n t i : Nat}
theorem ak_add_rd {k p v : Int} : (ak_add h1 t k p v).1 3 6 = ((t + 1 : Nat) : Int) ∧ (∀ j, j ≠ t → (ak_add h1 t k p v).1 6 j = h1.1 6 j ∧ (ak_add h1 t k p v).1 7 j = h1.1 7 j ∧ (ak_add h1 t k p v).2.1 8 j = h1.2.1 8 j) ∧
    ((ak_add h1 t k p v).1 6 t = k ∧ (ak_add h1 t k p v).1 7 t = p ∧ (ak_add h1 t k p v).2.1 8 t = v) := by
  unfold ak_add
  refine ⟨by simp [am_up], fun j hj => ⟨by simp [am_up, hj], by simp [am_up, hj], by simp [am_up, hj]⟩, by simp [am_up], by simp [am_up], by simp [am_up]⟩
theorem ak_add_fr {k p v : Int} (w : ak_lfr h h1) : ak_lfr h (ak_add h1 t k p v) := by
  refine ⟨fun q j h6 h7 h3 => ?_, fun q j h8 h3 => ?_, w.2.2⟩
  · rw [← w.1 q j h6 h7 h3]
    show am_up (am_up (am_up h1.1 6 t k) 7 t p) 3 6 _ q j = _
    unfold am_up
    by_cases hq : q = 3
    · rw [if_pos hq, if_neg (fun z => h3 ⟨hq, by omega, by omega⟩), if_neg h7, if_neg h6]
    · rw [if_neg hq, if_neg h7, if_neg h6]
  · rw [← w.2.1 q j h8 h3]
    show am_up h1.2.1 8 t v q j = _
    unfold am_up
    rw [if_neg h8]
theorem ak_lx_add {v : Int} (w : ak_lx h h1 n t i) (hi : i < n) (hs : ¬ ak_wB (h.1 4 i) = true) (hv : ak_vl (h.1 4) n i v) : ak_lx h (ak_add h1 t (ak_kd (h.1 4) n i) (i : Int) v) n (t + 1) (ak_nx (h.1 4) n i) := by
  obtain ⟨w1, w2, w3, w4, w5, w6⟩ := w
  have hnx := ak_nx_le (b := h.1 4) hi
  have hst : ak_st (h.1 4) n t = i := by rw [w4]; exact ak_end_no hi hs
  obtain ⟨a1, a2, a3⟩ := ak_add_rd (h1 := h1) (t := t) (k := ak_kd (h.1 4) n i) (p := (i : Int)) (v := v)
  refine ⟨a1, by omega, hnx.2, ?_, fun k hk => ?_, ak_add_fr w6⟩
  · show ak_end ak_wB (h.1 4) n (ak_nx (h.1 4) n (ak_st (h.1 4) n t)) = _
    rw [hst]
  · by_cases hkt : k = t
    · subst hkt
      refine ⟨by rw [hst]; exact hi, ?_⟩
      unfold ak_tkn
      rw [hst]
      exact ⟨a3.2.1, a3.1, by rw [a3.2.2]; exact hv⟩
    · obtain ⟨b1, b2, b3, b4⟩ := w5 k (by omega)
      refine ⟨b1, ?_⟩
      unfold ak_tkn
      obtain ⟨c1, c2, c3⟩ := a2 k hkt
      rw [c1, c2, c3]
      exact ⟨b2, b3, b4⟩
theorem ak_lx_sp (w : ak_lx h h1 n t i) (hi : i < n) (hs : ak_wB (h.1 4 i) = true) : ak_lx h h1 n t (i + 1) := by
  obtain ⟨w1, w2, w3, w4, w5, w6⟩ := w
  exact ⟨w1, by omega, by omega, by rw [w4]; exact ak_end_yes hi hs, w5, w6⟩
theorem am_s128 {Q : ak_S → Prop} {X : Nat → ak_S → Prop} {m a : Nat} (hm : h.1 3 6 = (m : Int)) (hm2 : m ≤ 6001) (ha : h.1 3 7 = (a : Int) - 1) (ha2 : a < m)
    (w : Q (am_up (am_up (am_up h.1 3 7 (a : Int)) 3 8 (h.1 6 a)) 3 9 (h.1 7 a), am_up h.2.1 3 10 (h.2.1 8 a), h.2.2)) : ak_MV e 0 (d + 1) ρ 128 [am_r 3] h Q X := by
  have e1 : am_w32 (h.1 3 7 + 1) = (a : Int) := by
    rw [ha, show (a : Int) - 1 + 1 = (a : Int) by omega]
    exact ak_w _ (by omega)
  refine ak_MV_of (Nat.le_of_ble_eq_true rfl) (am_k128_0 ⟨fun z => ?_, fun _ => ?_⟩)
  · rw [e1, hm] at z
    exact absurd z (by omega)
  · rw [e1, ak_natn]
    have b : 0 ≤ (a : Int) ∧ (a : Int) < 6001 := by omega
    exact ⟨b, b, b, w⟩
theorem am_s122 {Q : ak_S → Prop} {X : Nat → ak_S → Prop} (hn : h.1 3 1 = (n : Int)) (hn2 : n ≤ 6000) (hb : ∀ k, k < n → -128 ≤ h.1 4 k ∧ h.1 4 k < 128) (hk : ∀ k, k < 24 → h.2.1 5 k = ak_kws.getD k 0)
    (w : ∀ h2 m, ak_lexed h h2 n m → Q h2) : ak_MV e 0 (d + 6) ρ 122 [am_r 3] h Q X := by
  have fin : ∀ (t : Nat) (h1 : ak_S), ak_lx h h1 n t n → ak_MV e 0 (d + 5) ρ 123 [am_r 3, am_i 0, am_i (h1.1 3 1), am_l 0] h1 (fun h3 => ak_MV e 0 (d + 5) ρ 128 [am_r 3] (am_up h3.1 3 7 (-1), h3.2) (fun h4 => Q h4) (fun _ _ => False)) (fun _ _ => False) := by
    intro t h1 hl
    obtain ⟨w1, w2, w3, w4, w5, w6⟩ := hl
    have hn1 : h1.1 3 1 = (n : Int) := by rw [w6.1 3 1 (by omega) (by omega) (by omega)]; exact hn
    have hst : ak_st (h.1 4) n t = n := by rw [w4]; exact ak_end_ge (Nat.le_refl _)
    rw [hn1]
    refine am_s123 w1 (by omega) ?_
    obtain ⟨a1, a2, a3⟩ := ak_add_rd (h1 := h1) (t := t) (k := 0) (p := (n : Int)) (v := 0)
    have af := ak_add_fr (t := t) (k := 0) (p := (n : Int)) (v := 0) w6
    generalize ak_add h1 t 0 (n : Int) 0 = h3 at a1 a2 a3 af
    have r36 : am_up h3.1 3 7 (-1) 3 6 = ((t + 1 : Nat) : Int) := by rw [← a1]; unfold am_up; rw [if_pos rfl, if_neg (by decide)]
    refine am_s128 (m := t + 1) (a := 0) r36 (by omega) (by show am_up h3.1 3 7 (-1) 3 7 = ((0 : Nat) : Int) - 1; unfold am_up; rw [if_pos rfl, if_pos rfl]; rfl) (by omega) ?_
    have q6 : ∀ j, am_up h3.1 3 7 (-1) 6 j = h3.1 6 j := fun j => by unfold am_up; rw [if_neg (by decide)]
    have q7 : ∀ j, am_up h3.1 3 7 (-1) 7 j = h3.1 7 j := fun j => by unfold am_up; rw [if_neg (by decide)]
    show Q (am_up (am_up (am_up (am_up h3.1 3 7 (-1)) 3 7 ((0 : Nat) : Int)) 3 8 (am_up h3.1 3 7 (-1) 6 0)) 3 9 (am_up h3.1 3 7 (-1) 7 0), am_up h3.2.1 3 10 (h3.2.1 8 0), h3.2.2)
    rw [q6, q7]
    refine w _ t ⟨?_, w2, hst, fun k hk => (w5 k hk).1, fun k hk => ?_, ⟨?_, ?_, ?_, ?_⟩, ?_⟩
    · show am_up (am_up (am_up (am_up h3.1 3 7 (-1)) 3 7 ((0 : Nat) : Int)) 3 8 (h3.1 6 0)) 3 9 (h3.1 7 0) 3 6 = _
      rw [← a1]
      simp [am_up]
    · have g6 : am_up (am_up (am_up (am_up h3.1 3 7 (-1)) 3 7 ((0 : Nat) : Int)) 3 8 (h3.1 6 0)) 3 9 (h3.1 7 0) 6 k = h3.1 6 k := by simp [am_up]
      have g7 : am_up (am_up (am_up (am_up h3.1 3 7 (-1)) 3 7 ((0 : Nat) : Int)) 3 8 (h3.1 6 0)) 3 9 (h3.1 7 0) 7 k = h3.1 7 k := by simp [am_up]
      have g8 : am_up h3.2.1 3 10 (h3.2.1 8 0) 8 k = h3.2.1 8 k := by simp [am_up]
      unfold ak_tkn
      show am_up (am_up (am_up (am_up h3.1 3 7 (-1)) 3 7 ((0 : Nat) : Int)) 3 8 (h3.1 6 0)) 3 9 (h3.1 7 0) 7 k = _ ∧ am_up (am_up (am_up (am_up h3.1 3 7 (-1)) 3 7 ((0 : Nat) : Int)) 3 8 (h3.1 6 0)) 3 9 (h3.1 7 0) 6 k = _ ∧ ak_vl (h.1 4) n (ak_st (h.1 4) n k) (am_up h3.2.1 3 10 (h3.2.1 8 0) 8 k)
      rw [g6, g7, g8]
      by_cases hkt : k = t
      · subst hkt
        rw [hst]
        refine ⟨a3.2.1, ?_, fun z => absurd z (by omega)⟩
        rw [a3.1]
        unfold ak_kd
        rw [if_pos (Nat.le_refl _)]
      · obtain ⟨c1, c2, c3⟩ := a2 k hkt
        rw [c1, c2, c3]
        exact (w5 k (by omega)).2
    · show am_up (am_up (am_up (am_up h3.1 3 7 (-1)) 3 7 ((0 : Nat) : Int)) 3 8 (h3.1 6 0)) 3 9 (h3.1 7 0) 3 7 = _
      simp [am_up]
    · show am_up (am_up (am_up (am_up h3.1 3 7 (-1)) 3 7 ((0 : Nat) : Int)) 3 8 (h3.1 6 0)) 3 9 (h3.1 7 0) 3 8 = am_up (am_up (am_up (am_up h3.1 3 7 (-1)) 3 7 ((0 : Nat) : Int)) 3 8 (h3.1 6 0)) 3 9 (h3.1 7 0) 6 0
      simp [am_up]
    · show am_up (am_up (am_up (am_up h3.1 3 7 (-1)) 3 7 ((0 : Nat) : Int)) 3 8 (h3.1 6 0)) 3 9 (h3.1 7 0) 3 9 = am_up (am_up (am_up (am_up h3.1 3 7 (-1)) 3 7 ((0 : Nat) : Int)) 3 8 (h3.1 6 0)) 3 9 (h3.1 7 0) 7 0
      simp [am_up]
    · show am_up h3.2.1 3 10 (h3.2.1 8 0) 3 10 = am_up h3.2.1 3 10 (h3.2.1 8 0) 8 0
      simp [am_up]
    · refine ⟨fun p k h6 h7 h3' => ?_, fun p k h8 h3' => ?_, af.2.2⟩
      · rw [← af.1 p k h6 h7 h3']
        show am_up (am_up (am_up (am_up h3.1 3 7 (-1)) 3 7 ((0 : Nat) : Int)) 3 8 (h3.1 6 0)) 3 9 (h3.1 7 0) p k = _
        unfold am_up
        by_cases hp : p = 3
        · rw [if_pos hp, if_neg (fun z => h3' ⟨hp, by omega, by omega⟩), if_pos hp, if_neg (fun z => h3' ⟨hp, by omega, by omega⟩), if_pos hp, if_neg (fun z => h3' ⟨hp, by omega, by omega⟩), if_pos hp, if_neg (fun z => h3' ⟨hp, by omega, by omega⟩)]
        · rw [if_neg hp, if_neg hp, if_neg hp, if_neg hp]
      · rw [← af.2.1 p k h8 h3']
        show am_up h3.2.1 3 10 (h3.2.1 8 0) p k = _
        unfold am_up
        by_cases hp : p = 3
        · rw [if_pos hp, if_neg (fun z => h3' ⟨hp, z⟩)]
        · rw [if_neg hp]
  have lp : ∀ (c i it t : Nat) (h1 : ak_S), i + c = n → it ≤ i → ak_lx h h1 n t i → ak_W0 e 0 (d + 5) 122 ρ 9 [some (am_r 3), some (am_i (i : Int)), some (am_i (it : Int)), none] [] h1 (ak_qv Q X) := by
    intro c
    induction c using Nat.strongRecOn with
    | _ c ih =>
      intro i it t h1 hc hit hl
      have hl' := hl
      obtain ⟨w1, w2, w3, w4, w5, w6⟩ := hl'
      have hn1 : h1.1 3 1 = (n : Int) := by rw [w6.1 3 1 (by omega) (by omega) (by omega)]; exact hn
      have h4 : ∀ k, h1.1 4 k = h.1 4 k := fun k => w6.1 4 k (by omega) (by omega) (by omega)
      have h4f : h1.1 4 = h.1 4 := funext h4
      have hk1 : ∀ k, k < 24 → h1.2.1 5 k = ak_kws.getD k 0 := fun k hk' => by rw [w6.2.1 5 k (by omega) (by omega)]; exact hk k hk'
      have nxt : ∀ (i' it' t' : Nat) (h2 : ak_S), i < i' → it' ≤ it + 1 → ak_lx h h2 n t' i' → ak_W0 e 0 (d + 5) 122 ρ 9 [some (am_r 3), some (am_i (i' : Int)), some (am_i (it' : Int)), none] [] h2 (ak_qv Q X) := by
        intro i' it' t' h2 g1 g2 g3
        have := g3.2.2.1
        exact ih (n - i') (by omega) i' it' t' h2 (by omega) (by omega) g3
      by_cases hin : i < n
      · have g1 : ¬ (6000 : Int) ≤ (it : Int) := by omega
        have g2 : ¬ h1.1 3 1 ≤ (i : Int) := by rw [hn1]; omega
        have g3 : 0 ≤ (i : Int) ∧ (i : Int) < 6000 := by omega
        refine am_k122_9 ⟨fun z => absurd z g1, fun _ => ⟨fun z => absurd z g2, fun _ => ⟨g3, ?_⟩⟩⟩
        rw [ak_natn, ak_wj (show i < 1000000 by omega), ak_wj (show it < 1000000 by omega)]
        refine am_s131 (fun hp => ⟨fun z => absurd z (by decide), fun _ => ?_⟩) (fun hp => ⟨fun _ => ?_, fun z => absurd rfl z⟩)
        · refine ak_MI_deep (show d + 2 ≤ d + 5 by omega) (am_s124 hn1 hn2 hin hp w1 (by omega) hk1 (fun v hv => ?_))
          rw [h4f] at hv hp ⊢
          have hw : ¬ ak_wB (h.1 4 i) = true := by
            rw [ak_wB_iff]; rw [ak_lB_iff] at hp; unfold ak_isW; unfold ak_isL at hp; omega
          have e3 : ak_kd (h.1 4) n i = if 8 < ak_end ak_lB (h.1 4) n i - i then 1 else ak_kidx (ak_pk (h.1 4) i (ak_end ak_lB (h.1 4) n i - i)) ak_kws 0 := by
            unfold ak_kd; rw [if_neg (by omega), if_pos hp]
          have e4 : ak_nx (h.1 4) n i = ak_end ak_lB (h.1 4) n i := by
            unfold ak_nx; rw [if_neg (by omega), if_pos hp]
          have hd : ¬ ak_dB (h.1 4 i) = true := by
            rw [ak_dB_iff]; rw [ak_lB_iff] at hp; unfold ak_isD; unfold ak_isL at hp; omega
          have g := ak_lx_add hl hin hw (v := v) (fun _ => ⟨fun _ z => hv z, fun z => absurd z hd⟩)
          have hx := ak_nx_le (b := h.1 4) hin
          rw [e3, e4] at g
          rw [e4] at hx
          exact nxt _ _ _ _ hx.1 (by omega) g
        · rw [h4] at hp
          refine am_s132 (fun hp2 => ⟨fun z => absurd z (by decide), fun _ => ?_⟩) (fun hp2 => ⟨fun _ => ⟨fun z => ?_, fun z => ⟨fun z2 => ?_, fun z2 => ?_⟩⟩, fun z => absurd rfl z⟩)
          · refine ak_MI_deep (show d + 2 ≤ d + 5 by omega) (am_s126 hn1 hn2 hin w1 (by omega) (fun v hv => ?_))
            rw [h4f] at hv hp2 ⊢
            have hw : ¬ ak_wB (h.1 4 i) = true := by
              rw [ak_wB_iff]; rw [ak_dB_iff] at hp2; unfold ak_isW; unfold ak_isD at hp2; omega
            have e3 : ak_kd (h.1 4) n i = if 9 < ak_end ak_dB (h.1 4) n i - i then 1 else 3 := by
              unfold ak_kd; rw [if_neg (by omega), if_neg hp, if_pos hp2]
            have e4 : ak_nx (h.1 4) n i = ak_end ak_dB (h.1 4) n i := by
              unfold ak_nx; rw [if_neg (by omega), if_neg hp, if_pos hp2]
            have g := ak_lx_add hl hin hw (v := v) (fun _ => ⟨fun z => absurd z hp, fun _ z => hv z⟩)
            have hx := ak_nx_le (b := h.1 4) hin
            rw [e3, e4] at g
            rw [e4] at hx
            exact nxt _ _ _ _ hx.1 (by omega) g
          · rw [h4] at z
            exact nxt _ _ _ _ (by omega) (by omega) (ak_lx_sp hl hin (ak_wB_iff.mpr (Or.inl z)))
          · rw [h4] at z z2 hp2
            have hw : ¬ ak_wB (h.1 4 i) = true := fun q => (ak_wB_iff.mp q).elim z z2
            have hx := ak_nx_le (b := h.1 4) hin
            have gv : ak_vl (h.1 4) n i 0 := fun _ => ⟨fun q => absurd q hp, fun q => absurd q hp2⟩
            refine am_s127 hn1 hn2 hin (by rw [h4]; exact hb i hin) w1 (by omega) (fun q => ?_) (fun q => ?_)
            · rw [h4, h4] at q
              have e3 : ak_kd (h.1 4) n i = 4 := by unfold ak_kd; rw [if_neg (by omega), if_neg hp, if_neg hp2, if_pos q]
              have e4 : ak_nx (h.1 4) n i = i + 2 := by unfold ak_nx; rw [if_neg (by omega), if_neg hp, if_neg hp2, if_pos q]
              have g := ak_lx_add hl hin hw gv
              rw [e3, e4] at g
              exact nxt _ _ _ _ (by omega) (by omega) g
            · rw [h4, h4] at q
              rw [h4]
              have e3 : ak_kd (h.1 4) n i = if ak_sgs.elem (h.1 4 i) = true then h.1 4 i else 1 := by unfold ak_kd; rw [if_neg (by omega), if_neg hp, if_neg hp2, if_neg q]
              have e4 : ak_nx (h.1 4) n i = i + 1 := by unfold ak_nx; rw [if_neg (by omega), if_neg hp, if_neg hp2, if_neg q]
              have g := ak_lx_add hl hin hw gv
              rw [e3, e4] at g
              exact nxt _ _ _ _ (by omega) (by omega) g
          · rw [h4] at z2
            exact nxt _ _ _ _ (by omega) (by omega) (ak_lx_sp hl hin (ak_wB_iff.mpr (Or.inr z2)))
      · have : i = n := by omega
        subst this
        exact am_k122_9 ⟨fun _ => fin t h1 hl, fun _ => ⟨fun _ => fin t h1 hl, fun z => absurd z (by rw [hn1]; omega)⟩⟩
  refine ak_MV_of (Nat.le_of_ble_eq_true rfl) (am_k122_0 (lp n 0 0 0 _ (by omega) (Nat.le_refl _) ⟨?_, Nat.le_refl _, Nat.zero_le _, rfl, fun k hk => absurd hk (Nat.not_lt_zero _), ?_⟩))
  · show am_up h.1 3 6 0 3 6 = _
    unfold am_up; rw [if_pos rfl, if_pos rfl]; rfl
  · refine ⟨fun p k h6 h7 h3 => ?_, fun p k _ _ => rfl, rfl⟩
    show am_up h.1 3 6 0 p k = _
    unfold am_up
    by_cases hp : p = 3
    · rw [if_pos hp, if_neg (fun z => h3 ⟨hp, by omega, by omega⟩)]
    · rw [if_neg hp]
end LEXT
