/-! a site read, both sides at once -/
def ak_fsC (u : Nat) (h h' : ak_S) : Prop := (∀ q k, ¬ (q = ak_T u ∧ (k = 6 ∨ k = 10)) → ¬ (q = 3 ∧ 7 ≤ k ∧ k ≤ 9) → ¬ (ak_T u + 15 ≤ q ∧ q ≤ ak_T u + 17) → h'.1 q k = h.1 q k) ∧ (∀ q k, q ≠ ak_T u + 14 → ¬ (q = 3 ∧ k = 10) → h'.2.1 q k = h.2.1 q k) ∧ h'.2.2 = h.2.2
def ak_fsM (h h' : ak_S) : Prop := (∀ q k, ¬ (127 ≤ q ∧ q ≤ 133) → ¬ (q = 110 ∧ 32 ≤ k ∧ k ≤ 36) → h'.1 q k = h.1 q k) ∧ h'.2 = h.2
section LKSI
variable {e : ak_X3} {d : Nat} {b : Nat → Int} {n m p u a N S : Nat} {hc hm : ak_S}
theorem ak_siC_at {k x w : Int} {q j : Nat} (h : ¬ (q = ak_T u ∧ j = 10)) (h2 : ¬ (ak_T u + 15 ≤ q ∧ q ≤ ak_T u + 17)) : (ak_siC hc u S k x w).1 q j = hc.1 q j := by
  show am_up (am_up (am_up (am_up hc.1 (ak_T u + 15) S k) (ak_T u + 16) S x) (ak_T u + 17) S w) (ak_T u) 10 ((S + 1 : Nat) : Int) q j = _
  rw [ak_up_out h, ak_up_out (fun z => h2 (by omega)), ak_up_out (fun z => h2 (by omega)), ak_up_out (fun z => h2 (by omega))]
theorem ak_siM_at {k x w : Int} {q j : Nat} (h : ¬ (127 ≤ q ∧ q ≤ 130)) : (ak_siM hm p S k x w).1 q j = hm.1 q j := by
  show am_up (am_up (am_up (am_up hm.1 128 (150 * p + S) k) 129 (150 * p + S) x) 130 (150 * p + S) w) 127 p ((S + 1 : Nat) : Int) q j = _
  rw [ak_up_out (fun z => h (by omega)), ak_up_out (fun z => h (by omega)), ak_up_out (fun z => h (by omega)), ak_up_out (fun z => h (by omega))]
theorem ak_cc_si (hu : u = 0 ∨ u = 1) {k x w : Int} (c : ak_cc b n m hc a) : ak_cc b n m (ak_siC hc u S k x w) a := by
  have hT := ak_T_in hu
  exact ak_cc_fr c (fun j => ak_siC_at (by omega) (by omega)) (fun j => ak_siC_at (by omega) (by omega)) (fun j => ak_siC_at (by omega) (by omega)) rfl (fun _ => rfl)
/-- the sites, one more on both sides: h, g are the states when it is written -/
theorem ak_sts_new {h g : ak_S} {N' : Nat} {k x w : Int} (st : ak_sts u p hc hm S N) (hN : N ≤ N') (hS : S < 150) (hx : 0 ≤ x ∧ x < (N' : Int))
    (f1 : ∀ i, h.1 (ak_T u + 15) i = hc.1 (ak_T u + 15) i ∧ h.1 (ak_T u + 16) i = hc.1 (ak_T u + 16) i ∧ h.1 (ak_T u + 17) i = hc.1 (ak_T u + 17) i) (f2 : ∀ i, g.1 128 i = (ak_siM hm p S k x w).1 128 i ∧ g.1 129 i = (ak_siM hm p S k x w).1 129 i ∧ g.1 130 i = (ak_siM hm p S k x w).1 130 i) (f3 : g.1 127 p = ((S + 1 : Nat) : Int)) :
    ak_sts u p (ak_siC h u S k x w) g (S + 1) N' := by
  obtain ⟨s1, s2, s3, s4⟩ := st
  refine ⟨by omega, by simp [ak_siC, am_up], f3, fun i hi => ?_⟩
  rw [(f2 _).1, (f2 _).2.1, (f2 _).2.2]
  by_cases h0 : i = S
  · subst h0
    refine ⟨by simp [ak_siC, ak_siM, am_up], by simp [ak_siC, ak_siM, am_up], by simp [ak_siC, ak_siM, am_up], ?_, ?_⟩
    · simp [ak_siM, am_up]; exact hx.1
    · simp [ak_siM, am_up]; exact hx.2
  · obtain ⟨t1, t2, t3, t4, t5⟩ := s4 i (by omega)
    have e1 := (f1 i).1
    have e2 := (f1 i).2.1
    have e3 := (f1 i).2.2
    refine ⟨?_, ?_, ?_, ?_, ?_⟩
    · rw [← t1.trans (show hm.1 128 (150 * p + i) = (ak_siM hm p S k x w).1 128 (150 * p + i) by simp [ak_siM, am_up, h0]), ← e1]; simp [ak_siC, am_up, h0]
    · rw [← t2.trans (show hm.1 129 (150 * p + i) = (ak_siM hm p S k x w).1 129 (150 * p + i) by simp [ak_siM, am_up, h0]), ← e2]; simp [ak_siC, am_up, h0]
    · rw [← t3.trans (show hm.1 130 (150 * p + i) = (ak_siM hm p S k x w).1 130 (150 * p + i) by simp [ak_siM, am_up, h0]), ← e3]; simp [ak_siC, am_up, h0]
    · have : (ak_siM hm p S k x w).1 129 (150 * p + i) = hm.1 129 (150 * p + i) := by simp [ak_siM, am_up, h0]
      rw [this]; exact t4
    · have : (ak_siM hm p S k x w).1 129 (150 * p + i) = hm.1 129 (150 * p + i) := by simp [ak_siM, am_up, h0]
      rw [this]; omega
theorem ak_sts_fr {hc' hm' : ak_S} {N' : Nat} (st : ak_sts u p hc hm S N) (hN : N ≤ N') (c1 : hc'.1 (ak_T u) 10 = hc.1 (ak_T u) 10) (c2 : ∀ q k, ak_T u + 15 ≤ q → q ≤ ak_T u + 17 → hc'.1 q k = hc.1 q k) (m : ∀ q k, 127 ≤ q → q ≤ 130 → hm'.1 q k = hm.1 q k) : ak_sts u p hc' hm' S N' := by
  obtain ⟨s1, s2, s3, s4⟩ := st
  refine ⟨s1, c1.trans s2, (m _ _ (by omega) (by omega)).trans s3, fun i hi => ?_⟩
  obtain ⟨t1, t2, t3, t4, t5⟩ := s4 i hi
  have e1 := m 128 (150 * p + i) (by omega) (by omega)
  have e2 := m 129 (150 * p + i) (by omega) (by omega)
  have e3 := m 130 (150 * p + i) (by omega) (by omega)
  have g1 := c2 (ak_T u + 15) i (by omega) (by omega)
  have g2 := c2 (ak_T u + 16) i (by omega) (by omega)
  have g3 := c2 (ak_T u + 17) i (by omega) (by omega)
  exact ⟨g1.trans (t1.trans e1.symm), g2.trans (t2.trans e2.symm), g3.trans (t3.trans e3.symm), by rw [e2]; exact t4, by rw [e2]; omega⟩
theorem ak_pM_si {k x w : Int} (hS : S < 150) : ak_pM p hm (ak_siM hm p S k x w) := by
  have g : ∀ q, 128 ≤ q → q ≤ 130 → ak_pmI p q (150 * p + S) := fun q h1 h2 => Or.inr (Or.inr (Or.inr (Or.inr (Or.inl ⟨h1, h2, by omega, by omega⟩))))
  have h1 := ak_pM_upI (v := k) (ak_pM_refl (p := p) (h := hm)) (g 128 (by omega) (by omega))
  have h2 := ak_pM_upI (v := x) h1 (g 129 (by omega) (by omega))
  have h3 := ak_pM_upI (v := w) h2 (g 130 (by omega) (by omega))
  exact ak_pM_upI (q := 127) (k := p) (v := ((S + 1 : Nat) : Int)) h3 (Or.inr (Or.inr (Or.inl ⟨Or.inr (Or.inr (Or.inl rfl)), rfl⟩)))
theorem lk_site {ρ0 ρ3 ρ4 : Nat} {ρ : List Nat} {k : Int} (hu : u = 0 ∨ u = 1) (C : ak_cc b n m hc a) (M : ak_cm b n p hm a) (hf : hm.1 110 37 < 0) (nm : ak_nms b n u p hc hm N) (st : ak_sts u p hc hm S N) :
    ak_MI e 0 (d + 4) [ρ0, ak_T u, ak_T u + 1, ρ3, ρ4] 42 [am_r 2, am_i k] hc
      (fun x hc' => ak_MI e 1 (d + 6) ρ 219 [am_r 110, am_i k] hm (fun y hm' => y = x ∧ x = (S : Int) ∧ ak_kd b n (ak_st b n a) = 2 ∧ S < 150 ∧ ak_cc b n m hc' (a + 1) ∧ ak_cm b n p hm' (a + 1) ∧ hm'.1 110 37 < 0 ∧ (∃ N', N ≤ N' ∧ ak_nms b n u p hc' hm' N' ∧ ak_sts u p hc' hm' (S + 1) N') ∧ ak_fsC u hc hc' ∧ ak_fsM hm hm' ∧ ak_pM p hm hm') ak_F)
      (fun ex hc' => ex = 0 ∧ hc' = ak_th hc ∧ ak_MI e 1 (d + 6) ρ 219 [am_r 110, am_i k] hm (fun _ hm' => hm' = ak_wr hm) ak_F) := by
  have hstn := ak_st_le C C.1.1
  have hT := ak_T_in hu
  obtain ⟨s1, s2, s3, s4⟩ := id st
  have nms := id nm
  refine am_s42 hu (w := ak_pk b (ak_st b n a) (ak_nx b n (ak_st b n a) - ak_st b n a)) C s2 s1 nm.2.2.1 nm.2.1 (fun hk2 => ?_) (fun hk2 hS r0 hc' C' fr => ?_) (fun hk2 hS r0 hN hc' C' fr => ?_) (fun z => ⟨rfl, rfl, ?_⟩)
  · obtain ⟨hin, hl, wd, hv⟩ := ak_kd_word hk2
    rw [C.2.2.2.2.2.2]
    exact hv _ (C.2.1 a C.1.1).2.2
  · refine am_s219 M hstn hf nm s3 s1 (fun _ _ _ hm' M' fr' => ?_) (fun _ _ r1 => absurd r1 (by omega)) (fun z => absurd ⟨hk2, hS, Or.inl r0⟩ z)
    have rlt : ak_find (hc.2.1 (ak_T u + 14)) (ak_pk b (ak_st b n a) (ak_nx b n (ak_st b n a) - ak_st b n a)) N 0 < (N : Int) := by
      rcases ak_find_in (f := hc.2.1 (ak_T u + 14)) (w := ak_pk b (ak_st b n a) (ak_nx b n (ak_st b n a) - ak_st b n a)) N 0 with q | ⟨j, q1, q2, q3, -⟩
      · omega
      · omega
    refine ⟨rfl, rfl, hk2, hS, ak_cc_si hu C', M', ?_, ⟨N, Nat.le_refl _, ak_nms_fr nm ?_ (fun k => ?_) ?_ (fun k => ?_) (fun k => ?_), ak_sts_new st (Nat.le_refl _) hS ⟨r0, rlt⟩ (fun i => ⟨?_, ?_, ?_⟩) (fun i => ⟨?_, ?_, ?_⟩) ?_⟩, ⟨fun q j h1 h2 h3 => ?_, fun q j h1 h2 => ?_, ?_⟩, ⟨fun q j h1 h2 => ?_, ?_⟩, ?_⟩
    · rw [fr'.1 110 37 (by omega), ak_siM_at (by omega)]; exact hf
    · exact (ak_siC_at (by omega) (by omega)).trans (fr.1 _ _ (by omega))
    · exact fr.2.1 _ _ (by omega)
    · exact (fr'.1 _ _ (by omega)).trans (ak_siM_at (by omega))
    · exact (fr'.1 _ _ (by omega)).trans (ak_siM_at (by omega))
    · exact (fr'.1 _ _ (by omega)).trans (ak_siM_at (by omega))
    · exact fr.1 _ _ (by omega)
    · exact fr.1 _ _ (by omega)
    · exact fr.1 _ _ (by omega)
    · exact fr'.1 _ _ (by omega)
    · exact fr'.1 _ _ (by omega)
    · exact fr'.1 _ _ (by omega)
    · rw [fr'.1 127 p (by omega)]; simp [ak_siM, am_up]
    · exact (ak_siC_at (fun z => h1 ⟨z.1, Or.inr z.2⟩) h3).trans (fr.1 q j h2)
    · exact fr.2.1 q j h2
    · exact fr.2.2
    · exact (fr'.1 q j h2).trans (ak_siM_at (by omega))
    · exact fr'.2
    · exact ak_pM_trans (ak_pM_si hS) (ak_pM_rfr fr')
  · obtain ⟨hin, hl, wd, hv⟩ := ak_kd_word hk2
    refine am_s219 M hstn hf nm s3 s1 (fun _ _ r1 => absurd r1 (by omega)) (fun _ _ _ _ hm' M' fr' => ?_) (fun z => absurd ⟨hk2, hS, Or.inr hN⟩ z)
    have nn := ak_nms_new hu nm hN wd
    refine ⟨rfl, rfl, hk2, hS, ak_cc_si hu C', M', ?_, ⟨N + 1, by omega, ak_nms_fr nn ?_ (fun k => ?_) ?_ (fun k => ?_) (fun k => ?_), ak_sts_new (hm := ak_nmM hm p N ((ak_st b n a : Nat) : Int) ((ak_nx b n (ak_st b n a) - ak_st b n a : Nat) : Int)) (ak_sts_fr st (Nat.le_refl _) rfl (fun _ _ _ _ => rfl) (fun q j h1 h2 => ak_nm110 (by omega))) (by omega) hS ⟨by omega, by omega⟩ (fun i => ⟨?_, ?_, ?_⟩) (fun i => ⟨?_, ?_, ?_⟩) ?_⟩, ⟨fun q j h1 h2 h3 => ?_, fun q j h1 h2 => ?_, ?_⟩, ⟨fun q j h1 h2 => ?_, ?_⟩, ?_⟩
    · rw [fr'.1 110 37 (by omega), ak_siM_at (by omega), ak_nm110 (by omega)]; exact hf
    · exact (ak_siC_at (by omega) (by omega)).trans (fr.1 _ _ (by omega))
    · exact fr.2.1 _ _ (by omega)
    · exact (fr'.1 _ _ (by omega)).trans (ak_siM_at (by omega))
    · exact (fr'.1 _ _ (by omega)).trans (ak_siM_at (by omega))
    · exact (fr'.1 _ _ (by omega)).trans (ak_siM_at (by omega))
    · exact (fr.1 _ _ (by omega)).trans (ak_up_out (fun z => by omega))
    · exact (fr.1 _ _ (by omega)).trans (ak_up_out (fun z => by omega))
    · exact (fr.1 _ _ (by omega)).trans (ak_up_out (fun z => by omega))
    · exact fr'.1 _ _ (by omega)
    · exact fr'.1 _ _ (by omega)
    · exact fr'.1 _ _ (by omega)
    · rw [fr'.1 127 p (by omega)]; simp [ak_siM, am_up]
    · exact (ak_siC_at (fun z => h1 ⟨z.1, Or.inr z.2⟩) h3).trans ((fr.1 q j h2).trans (ak_up_out (fun z => h1 ⟨z.1, Or.inl z.2⟩)))
    · exact (fr.2.1 q j h2).trans (ak_up_out (fun z => h1 z.1))
    · exact fr.2.2
    · exact (fr'.1 q j h2).trans ((ak_siM_at (by omega)).trans (ak_nm110 (by omega)))
    · exact fr'.2
    · exact ak_pM_trans (ak_pM_nm hN) (ak_pM_trans (ak_pM_si hS) (ak_pM_rfr fr'))
  · exact am_s219 M hstn hf nm s3 s1 (fun h1 h2 h3 => absurd ⟨h1, h2, Or.inl h3⟩ z) (fun h1 h2 _ h4 => absurd ⟨h1, h2, Or.inr h4⟩ z) (fun _ => rfl)
end LKSI
