/-! reading on, both sides: the token that stands here is the a-th -/
def ak_cc (b : Nat → Int) (n m : Nat) (h : ak_S) (a : Nat) : Prop :=
  (a ≤ m ∧ m ≤ 6000 ∧ ak_st b n m = n ∧ ∀ k, k < m → ak_st b n k < n) ∧ (∀ k, k ≤ m → ak_tkn b n h k) ∧ h.1 3 6 = ((m + 1 : Nat) : Int) ∧ h.1 3 7 = (a : Int) ∧ h.1 3 8 = ak_kd b n (ak_st b n a) ∧ h.1 3 9 = ((ak_st b n a : Nat) : Int) ∧ h.2.1 3 10 = h.2.1 8 a
def ak_cm (b : Nat → Int) (n p : Nat) (h : ak_S) (a : Nat) : Prop :=
  ak_mt h p n b ∧ h.1 110 32 = ((ak_nx b n (ak_st b n a) : Nat) : Int) ∧ h.1 110 33 = ak_kd b n (ak_st b n a) ∧ h.1 110 34 = ((ak_st b n a : Nat) : Int) ∧ h.1 110 35 = ((ak_nx b n (ak_st b n a) - ak_st b n a : Nat) : Int) ∧
  (ak_st b n a < n → ak_dB (b (ak_st b n a)) = true → ak_nx b n (ak_st b n a) - ak_st b n a ≤ 9 → h.1 110 36 = ak_nu b (ak_st b n a) (ak_nx b n (ak_st b n a) - ak_st b n a))
/-- what reading on changes on the one side -/
def ak_afr (h h' : ak_S) : Prop := (∀ p k, ¬ (p = 3 ∧ 7 ≤ k ∧ k ≤ 9) → h'.1 p k = h.1 p k) ∧ (∀ p k, ¬ (p = 3 ∧ k = 10) → h'.2.1 p k = h.2.1 p k) ∧ h'.2.2 = h.2.2
theorem ak_end_fix {b : Nat → Int} {n j : Nat} (hj : j ≤ n) : ak_end ak_wB b n (ak_end ak_wB b n j) = ak_end ak_wB b n j := by
  have h1 := ak_end_le (P := ak_wB) (b := b) hj
  by_cases h2 : ak_end ak_wB b n j = n
  · rw [h2]; exact ak_end_ge (Nat.le_refl _)
  · refine ak_end_no (by omega) (fun hp => ?_)
    unfold ak_end at h1 h2 hp
    have key : ∀ (c i : Nat), i + c = n → ak_run ak_wB b c i < n → ¬ ak_wB (b (ak_run ak_wB b c i)) = true := by
      intro c
      induction c with
      | zero => intro i hi hl; unfold ak_run at hl; omega
      | succ c ih =>
        intro i hi hl
        unfold ak_run at hl ⊢
        split
        · rename_i hw; rw [if_pos hw] at hl; exact ih (i + 1) (by omega) hl
        · rename_i hw; exact hw
    exact key (n - j) j (by omega) (by omega) hp
theorem ak_kd0 {b : Nat → Int} {n i : Nat} (hi : n ≤ i) : ak_kd b n i = 0 := by unfold ak_kd; rw [if_pos hi]
section CUR
variable {e : ak_X3} {d : Nat} {ρ : List Nat} {h : ak_S} {b : Nat → Int} {n m p a : Nat}
theorem ak_cc_lt (c : ak_cc b n m h a) (hk : ak_kd b n (ak_st b n a) ≠ 0) : a < m := by
  obtain ⟨⟨c1, c2, c3, c4⟩, -⟩ := c
  rcases Nat.lt_or_ge a m with g | g
  · exact g
  · exfalso
    have : a = m := by omega
    subst this
    exact hk (ak_kd0 (by omega))
theorem ak_cc_adv (c : ak_cc b n m h a) (ha : a < m) : ak_cc b n m (am_up (am_up (am_up h.1 3 7 ((a + 1 : Nat) : Int)) 3 8 (h.1 6 (a + 1))) 3 9 (h.1 7 (a + 1)), am_up h.2.1 3 10 (h.2.1 8 (a + 1)), h.2.2) (a + 1) := by
  obtain ⟨⟨c1, c2, c3, c4⟩, c5, c6, c7, c8, c9, c10⟩ := c
  obtain ⟨t1, t2, t3⟩ := c5 (a + 1) (by omega)
  refine ⟨⟨by omega, c2, c3, c4⟩, fun k hk => ?_, ?_, ?_, ?_, ?_, ?_⟩
  · obtain ⟨s1, s2, s3⟩ := c5 k hk
    unfold ak_tkn
    refine ⟨?_, ?_, ?_⟩
    · rw [← s1]; simp [am_up]
    · rw [← s2]; simp [am_up]
    · have : am_up h.2.1 3 10 (h.2.1 8 (a + 1)) 8 k = h.2.1 8 k := by simp [am_up]
      show ak_vl b n (ak_st b n k) (am_up h.2.1 3 10 (h.2.1 8 (a + 1)) 8 k)
      rw [this]; exact s3
  · rw [← c6]; simp [am_up]
  · simp [am_up]
  · rw [← t2]; simp [am_up]
  · rw [← t1]; simp [am_up]
  · simp [am_up]
theorem am_adv {Q : ak_S → Prop} {X : Nat → ak_S → Prop} (c : ak_cc b n m h a) (ha : a < m) (w : ∀ h', ak_cc b n m h' (a + 1) → ak_afr h h' → Q h') : ak_MV e 0 (d + 1) ρ 128 [am_r 3] h Q X := by
  have hm2 := c.1.2.1
  refine am_s128 (m := m + 1) (a := a + 1) c.2.2.1 (by omega) (by rw [c.2.2.2.1]; omega) (by omega) (w _ (ak_cc_adv c ha) ⟨fun q k hq => ?_, fun q k hq => ?_, rfl⟩)
  · show am_up (am_up (am_up h.1 3 7 ((a + 1 : Nat) : Int)) 3 8 (h.1 6 (a + 1))) 3 9 (h.1 7 (a + 1)) q k = _
    unfold am_up
    by_cases hp : q = 3
    · rw [if_pos hp, if_neg (fun z => hq ⟨hp, by omega, by omega⟩), if_pos hp, if_neg (fun z => hq ⟨hp, by omega, by omega⟩), if_pos hp, if_neg (fun z => hq ⟨hp, by omega, by omega⟩)]
    · rw [if_neg hp, if_neg hp, if_neg hp]
  · show am_up h.2.1 3 10 (h.2.1 8 (a + 1)) q k = _
    unfold am_up
    by_cases hp : q = 3
    · rw [if_pos hp, if_neg (fun z => hq ⟨hp, z⟩)]
    · rw [if_neg hp]
theorem ak_cm_of {h0 : ak_S} {j : Nat} (hm : ak_mt h0 p n b) (hst : ak_end ak_wB b n j = ak_st b n a) (r : ak_rdp h0 h b n j) : ak_cm b n p h a := by
  unfold ak_rdp at r
  rw [hst] at r
  obtain ⟨r1, r2, r3, r4, r5, r6⟩ := r
  exact ⟨ak_mt_fr hm r6, r1, r2, r3, r4, r5⟩
theorem am_rd {Q : ak_S → Prop} {X : Nat → ak_S → Prop} (c : ak_cm b n p h a) (hst : ak_st b n a ≤ n) (w : ∀ h', ak_cm b n p h' (a + 1) → ak_rfr h h' → Q h') : ak_MV e 1 (d + 3) ρ 205 [am_r 110] h Q X := by
  have hnx : ak_nx b n (ak_st b n a) ≤ n := by
    rcases Nat.lt_or_ge (ak_st b n a) n with g | g
    · exact (ak_nx_le g).2
    · unfold ak_nx; rw [if_pos g]; exact Nat.le_refl _
  exact am_s205 c.1 hnx c.2.1 (fun h2 r => w h2 (ak_cm_of c.1 rfl r) r.2.2.2.2.2)
theorem am_s10 {ρ0 ρ3 ρ4 u : Nat} (hu : u = 0 ∨ u = 1) {Q : ak_S → Prop} {X : Nat → ak_S → Prop} {v : Int} (w1 : v ≠ 0 → Q h) (w0 : v = 0 → X 0 (ak_th h)) : ak_MV e 0 (d + 1) [ρ0, ak_T u, ak_T u + 1, ρ3, ρ4] 10 [am_i v] h Q X :=
  ak_MV_of (Nat.le_of_ble_eq_true rfl) (am_k10_0 hu ⟨w1, w0⟩)
theorem am_s11 {ρ0 ρ3 ρ4 u : Nat} (hu : u = 0 ∨ u = 1) {Q : ak_S → Prop} {X : Nat → ak_S → Prop} {t : Int} (c : ak_cc b n m h a) (ht : t ≠ 0) (w1 : ak_kd b n (ak_st b n a) = t → ∀ h', ak_cc b n m h' (a + 1) → ak_afr h h' → Q h') (w0 : ak_kd b n (ak_st b n a) ≠ t → X 0 (ak_th h)) :
    ak_MV e 0 (d + 2) [ρ0, ak_T u, ak_T u + 1, ρ3, ρ4] 11 [am_r 2, am_i t] h Q X := by
  have hk := c.2.2.2.2.1
  refine ak_MV_of (Nat.le_of_ble_eq_true rfl) (am_k11_0 hu ⟨fun z => ?_, fun z => ?_⟩)
  · rw [hk] at z
    exact am_s10 hu (fun q => absurd rfl q) (fun _ => w0 z)
  · rw [hk] at z
    exact am_s10 hu (fun _ => am_adv c (ak_cc_lt c (by rw [z]; exact ht)) (w1 z)) (fun q => absurd q (by decide))
theorem am_s12 {ρ0 ρ3 ρ4 u : Nat} (hu : u = 0 ∨ u = 1) {Q : ak_S → Prop} {X : Nat → ak_S → Prop} {t : Int} {dp : Int} (c : ak_cc b n m h a) (ht : t ≠ 0) (w1 : ak_kd b n (ak_st b n a) = t → dp < 20 → ∀ h', ak_cc b n m h' (a + 1) → ak_afr h h' → Q h') (w0 : ¬ (ak_kd b n (ak_st b n a) = t ∧ dp < 20) → X 0 (ak_th h)) :
    ak_MV e 0 (d + 2) [ρ0, ak_T u, ak_T u + 1, ρ3, ρ4] 12 [am_r 2, am_i t, am_i dp] h Q X := by
  have hk := c.2.2.2.2.1
  refine ak_MV_of (Nat.le_of_ble_eq_true rfl) (am_k12_0 hu ⟨fun z => ?_, fun z => ⟨fun z2 => ?_, fun z2 => ?_⟩⟩)
  · rw [hk] at z
    exact am_s10 hu (fun q => absurd rfl q) (fun _ => w0 (fun q => z q.1))
  · exact am_s10 hu (fun q => absurd rfl q) (fun _ => w0 (fun q => absurd q.2 (by omega)))
  · rw [hk] at z
    exact am_s10 hu (fun _ => am_adv c (ak_cc_lt c (by rw [z]; exact ht)) (w1 z z2)) (fun q => absurd q (by decide))
/-! the other's helpers -/
theorem am_s206 {Q : Int → ak_S → Prop} {X : Nat → ak_S → Prop} (w0 : h.1 110 37 < 0 → Q 0 h) (w1 : 0 ≤ h.1 110 37 → Q 1 h) : ak_MI e 1 (d + 1) ρ 206 [am_r 110] h Q X :=
  ak_MI_of (Nat.le_of_ble_eq_true rfl) (am_k206_0 ⟨fun z => ⟨Or.inl rfl, w0 z⟩, fun z => ⟨Or.inr rfl, w1 z⟩⟩)
theorem am_s207 {Q : ak_S → Prop} {X : Nat → ak_S → Prop} {x : Int} (w0 : h.1 110 37 < 0 → Q (am_up h.1 110 37 x, h.2)) (w1 : 0 ≤ h.1 110 37 → Q h) : ak_MV e 1 (d + 1) ρ 207 [am_r 110, am_i x] h Q X :=
  ak_MV_of (Nat.le_of_ble_eq_true rfl) (am_k207_0 ⟨w1, w0⟩)
theorem am_s208 {Q : Int → ak_S → Prop} {X : Nat → ak_S → Prop} {t : Int} (w1 : h.1 110 37 < 0 → h.1 110 33 = t → Q 1 h) (w0 : ¬ (h.1 110 37 < 0 ∧ h.1 110 33 = t) → Q 0 h) : ak_MI e 1 (d + 1) ρ 208 [am_r 110, am_i t] h Q X :=
  ak_MI_of (Nat.le_of_ble_eq_true rfl) (am_k208_0 ⟨fun z => ⟨Or.inl rfl, w0 (fun q => absurd q.1 (by omega))⟩, fun z => ⟨fun z2 => ⟨Or.inl rfl, w0 (fun q => z2 q.2)⟩, fun z2 => ⟨Or.inr rfl, w1 z z2⟩⟩⟩)
def ak_wr (h : ak_S) : ak_S := (am_up h.1 110 37 (h.1 110 34), h.2)
theorem am_s209 {Q : ak_S → Prop} {X : Nat → ak_S → Prop} {t : Int} (hf : h.1 110 37 < 0) (c : ak_cm b n p h a) (hst : ak_st b n a ≤ n) (w1 : ak_kd b n (ak_st b n a) = t → ∀ h', ak_cm b n p h' (a + 1) → ak_rfr h h' → Q h') (w0 : ak_kd b n (ak_st b n a) ≠ t → Q (ak_wr h)) : ak_MV e 1 (d + 4) ρ 209 [am_r 110, am_i t] h Q X := by
  refine ak_MV_of (Nat.le_of_ble_eq_true rfl) (am_k209_0 (am_s206 (fun _ => ⟨fun _ => ⟨fun z => ?_, fun z => ?_⟩, fun z => absurd rfl z⟩) (fun z => absurd z (by omega))))
  · rw [c.2.2.1] at z
    exact am_rd c hst (w1 z)
  · rw [c.2.2.1] at z
    exact am_s207 (fun _ => w0 z) (fun z => absurd z (by omega))
theorem am_s209w {Q : ak_S → Prop} {X : Nat → ak_S → Prop} {t : Int} (hf : 0 ≤ h.1 110 37) (w : Q h) : ak_MV e 1 (d + 4) ρ 209 [am_r 110, am_i t] h Q X :=
  ak_MV_of (Nat.le_of_ble_eq_true rfl) (am_k209_0 (am_s206 (fun z => absurd z (by omega)) (fun _ => ⟨fun z => absurd z (by decide), fun _ => w⟩)))
theorem am_s210 {Q : ak_S → Prop} {X : Nat → ak_S → Prop} {t : Int} {o : Nat} (hf : h.1 110 37 < 0) (c : ak_cm b n p h a) (hst : ak_st b n a ≤ n) (ho : h.1 110 38 = (o : Int)) (ho2 : o ≤ 20)
    (w1 : ak_kd b n (ak_st b n a) = t → o < 20 → ∀ h', ak_cm b n p h' (a + 1) → ak_rfr (am_up h.1 110 38 ((o + 1 : Nat) : Int), h.2) h' → Q h') (w0 : ¬ (ak_kd b n (ak_st b n a) = t ∧ o < 20) → Q (ak_wr h)) : ak_MV e 1 (d + 4) ρ 210 [am_r 110, am_i t] h Q X := by
  refine ak_MV_of (Nat.le_of_ble_eq_true rfl) (am_k210_0 (am_s206 (fun _ => ⟨fun _ => ⟨fun z => ?_, fun z => ⟨fun z2 => ?_, fun z2 => ?_⟩⟩, fun z => absurd rfl z⟩) (fun z => absurd z (by omega))))
  · rw [c.2.2.1] at z
    exact am_s207 (fun _ => w0 (fun q => z q.1)) (fun z => absurd z (by omega))
  · rw [c.2.2.1] at z
    rw [ho] at z2
    have ho3 : o < 20 := by omega
    rw [ho, ak_wj (show o < 1000000 by omega)]
    have c2 : ak_cm b n p (am_up h.1 110 38 ((o + 1 : Nat) : Int), h.2) a := by
      obtain ⟨⟨m1, m2, m3, m4, m5, m6⟩, c1, c2, c3, c4, c5⟩ := c
      refine ⟨⟨?_, m2, ?_, m4, fun k hk => ?_, fun k hk => ?_⟩, ?_, ?_, ?_, ?_, fun g1 g2 g3 => ?_⟩
      · rw [← m1]; simp [am_up]
      · rw [← m3]; simp [am_up]
      · rw [← (m5 k hk).1]; exact ⟨by simp [am_up], (m5 k hk).2⟩
      · rw [← m6 k hk]; simp [am_up]
      · rw [← c1]; simp [am_up]
      · rw [← c2]; simp [am_up]
      · rw [← c3]; simp [am_up]
      · rw [← c4]; simp [am_up]
      · rw [← c5 g1 g2 g3]; simp [am_up]
    exact am_rd c2 hst (w1 z ho3)
  · rw [ho] at z2
    exact am_s207 (fun _ => w0 (fun q => absurd q.2 (by omega))) (fun z => absurd z (by omega))
theorem am_s210w {Q : ak_S → Prop} {X : Nat → ak_S → Prop} {t : Int} (hf : 0 ≤ h.1 110 37) (w : Q h) : ak_MV e 1 (d + 4) ρ 210 [am_r 110, am_i t] h Q X :=
  ak_MV_of (Nat.le_of_ble_eq_true rfl) (am_k210_0 (am_s206 (fun z => absurd z (by omega)) (fun _ => ⟨fun z => absurd z (by decide), fun _ => w⟩)))
end CUR
