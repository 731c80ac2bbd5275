/-! a name, a site: read in step -/
section PISI
variable {e : ak_X3} {d u p : Nat} {b : Nat → Int} {n m lv o Mt : Nat} {D : Nat → Nat} {z z' : Nat → Nat} {hc hm hc' hm' : ak_S} {ρ : List Nat}
theorem ak_PI_fs (hu : u = 0 ∨ u = 1) (w : ak_PI u p b n m lv D o Mt z hc hm) (C : ak_cc b n m hc' (z' 0)) (M : ak_cm b n p hm' (z' 0)) (hf : hm'.1 110 37 < 0) (nm : ak_nms b n u p hc' hm' (z' 6)) (st : ak_sts u p hc' hm' (z' 7) (z' 6)) (fC : ak_fsC u hc hc') (fM : ak_fsM hm hm')
    (q1 : z' 1 = z 1) (q2 : z' 2 = z 2) (q3 : z' 3 = z 3) (q4 : z' 4 = z 4) (q5 : z' 5 = z 5) : ak_PI u p b n m lv D o Mt z' hc' hm' := by
  have hT := ak_T_in hu
  obtain ⟨w1, w2, w3, w4, w5, w6, w7, w8, w9, w10, w11, w12, w13, w14, w15, w16⟩ := w
  refine ⟨C, M, hf, ?_, ak_scs_fr w5 (fC.1 _ _ (by omega) (by omega) (by omega)) (fun k => fC.1 _ _ (by omega) (by omega) (by omega)) (fun k => fC.2.1 _ _ (by omega) (by omega)) (fM.1 _ _ (by omega) (by omega)) (fun q k h1 h2 => fM.1 _ _ (by omega) (by omega)), nm, st,
    ak_mths_fr w8 (fC.1 _ _ (by omega) (by omega) (by omega)) (fun k => fC.2.1 _ _ (by omega) (by omega)) (fun q k h1 h2 => fM.1 _ _ (by omega) (by omega)), ?_, ?_, ?_, ?_, ?_, ?_, by rw [q5]; exact w15, ?_⟩
  · rw [fM.1 _ _ (by omega) (by omega)]; exact w4
  · rw [fC.1 _ _ (by omega) (by omega) (by omega), q1]; exact w9
  · rw [fM.1 _ _ (by omega) (by omega), q2]; exact w10
  · rw [fC.1 _ _ (by omega) (by omega) (by omega), q3]; exact w11
  · rw [fC.1 _ _ (by omega) (by omega) (by omega), q4]; exact w12
  · rw [fC.1 _ _ (by omega) (by omega) (by omega), q5]; exact w13
  · rw [fM.1 _ _ (by omega) (by omega), q5]; exact w14
  · rw [fC.1 _ _ (by omega) (by omega) (by omega)]; exact w16
theorem ak_le8 (q0 : z 0 ≤ z' 0) (q1 : z 1 ≤ z' 1) (q2 : z 2 ≤ z' 2) (q3 : z 3 ≤ z' 3) (q4 : z 4 ≤ z' 4) (q5 : z 5 ≤ z' 5) (q6 : z 6 ≤ z' 6) (q7 : z 7 ≤ z' 7) : ∀ i, i ≤ 7 → z i ≤ z' i := by
  intro i hi
  have h : i = 0 ∨ i = 1 ∨ i = 2 ∨ i = 3 ∨ i = 4 ∨ i = 5 ∨ i = 6 ∨ i = 7 := by omega
  rcases h with rfl | rfl | rfl | rfl | rfl | rfl | rfl | rfl <;> assumption
theorem ak_ext_fs (hu : u = 0 ∨ u = 1) (fC : ak_fsC u hc hc') (fM : ak_fsM hm hm') (pm : ak_pM p hm hm') (q0 : z 0 ≤ z' 0) (q1 : z' 1 = z 1) (q2 : z' 2 = z 2) (q3 : z' 3 = z 3) (q4 : z' 4 = z 4) (q5 : z' 5 = z 5) (q6 : z 6 ≤ z' 6) (q7 : z 7 ≤ z' 7) : ak_ext u p z z' hc hm hc' hm' := by
  have hT := ak_T_in hu
  refine ak_ext_of (ak_le8 q0 (Nat.le_of_eq q1.symm) (Nat.le_of_eq q2.symm) (Nat.le_of_eq q3.symm) (Nat.le_of_eq q4.symm) (Nat.le_of_eq q5.symm) q6 q7) (fun q k h1 h2 _ _ _ _ h3 => fC.1 _ _ (by omega) (by omega) (by omega)) (fun q k h1 h2 h3 h4 h5 h6 => ?_) (fun j h1 h2 => absurd h2 (by omega)) ?_ pm (fC.1 _ _ (by omega) (by omega) (by omega)) fC.2.2 (congrArg (fun y => y.2) fM.2)
  · exact fM.1 _ _ (by omega) (by omega)
  · exact ⟨fun q k h => fC.1 q k (fun g => h (Or.inr (Or.inr (Or.inr (by omega))))) (fun g => h (Or.inr (Or.inr (Or.inl g)))) (fun g => h (Or.inr (Or.inr (Or.inr (by omega))))), fun q k h => fC.2.1 q k (fun g => h (Or.inr (Or.inr (by omega)))) (fun g => h (Or.inr (Or.inl g)))⟩
/-- a site; z' has one token, one site, maybe a name more -/
theorem lk_site2 {ρ0 ρ3 ρ4 : Nat} {k : Int} (hu : u = 0 ∨ u = 1) (w : ak_PI u p b n m lv D o Mt z hc hm) :
    ak_MI e 0 (d + 4) [ρ0, ak_T u, ak_T u + 1, ρ3, ρ4] 42 [am_r 2, am_i k] hc
      (fun x hc' => ∃ (z' : Nat → Nat) (hm' : ak_S), x = (z 7 : Int) ∧ (z 7 < 150 ∧ z' 7 = z 7 + 1) ∧ ak_kd b n (ak_st b n (z 0)) = 2 ∧ z' 0 = z 0 + 1 ∧ z' 1 = z 1 ∧ z' 2 = z 2 ∧ z' 3 = z 3 ∧ z' 4 = z 4 ∧ z' 5 = z 5 ∧ ak_PI u p b n m lv D o Mt z' hc' hm' ∧ ak_ext u p z z' hc hm hc' hm' ∧ ak_goI e (d + 6) ρ 219 [am_r 110, am_i k] hm (z 7 : Int) hm')
      (fun ex hc' => ex = 0 ∧ hc' = ak_th hc ∧ ∃ y, ak_goI e (d + 6) ρ 219 [am_r 110, am_i k] hm y (ak_wr hm)) := by
  refine ak_MI_imp (lk_site (ρ := ρ) (d := d) hu w.1 w.2.1 w.2.2.1 w.2.2.2.2.2.1 w.2.2.2.2.2.2.1) (fun x hc' R => ?_) (fun ex hc' R => ?_)
  · obtain ⟨y, hm', ⟨e1, e2, k2, s1, C, M, hf, ⟨N', hN, nm, st⟩, fC, fM, pm⟩, go⟩ := ak_MI_get R
    subst e1
    subst e2
    exact ⟨ak_zu (ak_zu (ak_zu z 0 (z 0 + 1)) 6 N') 7 (z 7 + 1), hm', rfl, ⟨s1, rfl⟩, k2, rfl, rfl, rfl, rfl, rfl, rfl, ak_PI_fs hu w C M hf nm st fC fM rfl rfl rfl rfl rfl, ak_ext_fs hu fC fM pm (Nat.le_succ _) rfl rfl rfl rfl rfl hN (Nat.le_succ _), go⟩
  · obtain ⟨h1, h2, h3⟩ := R
    obtain ⟨y, hm', e1, go⟩ := ak_MI_get h3
    subst e1
    exact ⟨h1, h2, y, go⟩
/-- a name -/
theorem lk_name2 {ρ0 ρ3 ρ4 : Nat} (hu : u = 0 ∨ u = 1) (w : ak_PI u p b n m lv D o Mt z hc hm) :
    ak_MI e 0 (d + 3) [ρ0, ak_T u, ak_T u + 1, ρ3, ρ4] 43 [am_r 2] hc
      (fun x hc' => ∃ (z' : Nat → Nat) (hm' : ak_S), 0 ≤ x ∧ x < 100 ∧ ak_kd b n (ak_st b n (z 0)) = 2 ∧ z' 0 = z 0 + 1 ∧ z' 1 = z 1 ∧ z' 2 = z 2 ∧ z' 3 = z 3 ∧ z' 4 = z 4 ∧ z' 5 = z 5 ∧ ak_PI u p b n m lv D o Mt z' hc' hm' ∧ ak_ext u p z z' hc hm hc' hm' ∧ ak_goI e (d + 5) ρ 220 [am_r 110] hm x hm')
      (fun ex hc' => ex = 0 ∧ hc' = ak_th hc ∧ ∃ y, ak_goI e (d + 5) ρ 220 [am_r 110] hm y (ak_wr hm)) := by
  refine ak_MI_imp (lk_name (ρ := ρ) (d := d) hu w.1 w.2.1 w.2.2.1 w.2.2.2.2.2.1) (fun x hc' R => ?_) (fun ex hc' R => ?_)
  · obtain ⟨y, hm', ⟨e1, k2, C, M, hf, ⟨N', hN, nm, x0, x1⟩, fC, fM, pm⟩, go⟩ := ak_MI_get R
    subst e1
    have hT := ak_T_in hu
    have fC' : ak_fsC u hc hc' := ⟨fun q k h1 h2 h3 => fC.1 q k (fun g => h1 ⟨g.1, Or.inl g.2⟩) h2, fC.2.1, fC.2.2⟩
    have fM' : ak_fsM hm hm' := ⟨fun q k h1 h2 => fM.1 q k (by omega) (by omega) (by omega) h2, fM.2⟩
    have st : ak_sts u p hc' hm' (z 7) N' := ak_sts_fr w.2.2.2.2.2.2.1 hN (fC.1 _ _ (by omega) (by omega)) (fun q k h1 h2 => fC.1 _ _ (by omega) (by omega)) (fun q k h1 h2 => fM.1 _ _ (by omega) (by omega) (by omega) (by omega))
    have n100 := nm.2.1
    exact ⟨ak_zu (ak_zu z 0 (z 0 + 1)) 6 N', hm', x0, by omega, k2, rfl, rfl, rfl, rfl, rfl, rfl, ak_PI_fs hu w C M hf nm st fC' fM' rfl rfl rfl rfl rfl, ak_ext_fs hu fC' fM' pm (Nat.le_succ _) rfl rfl rfl rfl rfl hN (Nat.le_refl _), go⟩
  · obtain ⟨h1, h2, h3⟩ := R
    obtain ⟨y, hm', e1, go⟩ := ak_MI_get h3
    subst e1
    exact ⟨h1, h2, y, go⟩
end PISI
