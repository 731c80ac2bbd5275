/-! what keeps reading in step -/
section PIFR
variable {u p : Nat} {b : Nat → Int} {n m lv o Mt : Nat} {D : Nat → Nat} {z z' : Nat → Nat} {hc hm hc' hm' : ak_S}
theorem ak_scs_fr (sc : ak_scs b n hc hm lv D) (c1 : hc'.1 2 5 = hc.1 2 5) (c2 : ∀ k, hc'.1 31 k = hc.1 31 k) (c3 : ∀ k, hc'.2.1 30 k = hc.2.1 30 k) (m1 : hm'.1 110 42 = hm.1 110 42) (m2 : ∀ q k, 138 ≤ q → q ≤ 140 → hm'.1 q k = hm.1 q k) : ak_scs b n hc' hm' lv D := by
  obtain ⟨s1, s2, s3, s4⟩ := sc
  refine ⟨c1.trans s1, s2, m1.trans s3, fun s hs => ?_⟩
  obtain ⟨d1, d2, d3, d4⟩ := s4 s hs
  refine ⟨d1, (c2 s).trans d2, (m2 _ _ (by decide) (by decide)).trans d3, ?_⟩
  have e1 : (fun k => hc'.2.1 30 (12 * s + k)) = fun k => hc.2.1 30 (12 * s + k) := funext (fun k => c3 _)
  have e2 : (fun k => hm'.1 139 (12 * s + k)) = fun k => hm.1 139 (12 * s + k) := funext (fun k => m2 _ _ (by decide) (by decide))
  have e3 : (fun k => hm'.1 140 (12 * s + k)) = fun k => hm.1 140 (12 * s + k) := funext (fun k => m2 _ _ (by decide) (by decide))
  rw [e1, e2, e3]
  exact d4
theorem ak_mths_fr (mm : ak_mths b n u p hc hm Mt) (c1 : hc'.1 (ak_T u) 4 = hc.1 (ak_T u) 4) (c2 : ∀ k, hc'.2.1 (ak_T u + 11) k = hc.2.1 (ak_T u + 11) k) (m : ∀ q k, 122 ≤ q → q ≤ 124 → hm'.1 q k = hm.1 q k) : ak_mths b n u p hc' hm' Mt := by
  obtain ⟨n1, n2, n3, n4⟩ := mm
  refine ⟨n1, c1.trans n2, (m _ _ (by decide) (by decide)).trans n3, fun x hx => ?_⟩
  obtain ⟨i, y, g1, g2, g3, g4⟩ := n4 x hx
  exact ⟨i, y, g1, (m _ _ (by decide) (by decide)).trans g2, (m _ _ (by decide) (by decide)).trans g3, (c2 x).trans g4⟩
theorem ak_lvo (w : ak_PI u p b n m lv D o Mt z hc hm) : lv ≤ o := by
  obtain ⟨-, -, -, -, -, -, -, -, -, -, -, -, -, -, -, -, w⟩ := w
  exact w
/-- orders, guards, ons, literals, nodes change: the rest stays -/
theorem ak_PI_fr (hu : u = 0 ∨ u = 1) (w : ak_PI u p b n m lv D o Mt z hc hm) (fC : ∀ q k, ¬ (ak_T u + 1 ≤ q ∧ q ≤ ak_T u + 10) → ¬ (ak_T u + 18 ≤ q ∧ q ≤ ak_T u + 20) → ¬ (q = ak_T u ∧ k = 14) → hc'.1 q k = hc.1 q k) (fC2 : hc'.2 = hc.2)
    (fM : ∀ q k, ¬ (114 ≤ q ∧ q ≤ 121) → ¬ (134 ≤ q ∧ q ≤ 136) → ¬ (q = 110 ∧ 43 ≤ k ∧ k ≤ 45) → hm'.1 q k = hm.1 q k) (z0 : z' 0 = z 0) (z6 : z' 6 = z 6) (z7 : z' 7 = z 7) (s1 : hc'.1 (ak_T u + 1) 2 = (z' 1 : Int)) (s2 : hm'.1 121 p = (z' 2 : Int)) (s3 : hc'.1 (ak_T u + 1) 6 = (z' 3 : Int)) (s4 : hc'.1 (ak_T u + 1) 11 = (z' 4 : Int))
    (s5 : hc'.1 (ak_T u) 14 = (z' 5 : Int)) (s6 : hm'.1 134 p = (z' 5 : Int)) (s7 : z' 5 ≤ 60) : ak_PI u p b n m lv D o Mt z' hc' hm' := by
  have hT := ak_T_in hu
  obtain ⟨w1, w2, w3, w4, w5, w6, w7, w8, -, -, -, -, -, -, -, w16⟩ := w
  have fJ : ∀ q k, hc'.2.1 q k = hc.2.1 q k := fun q k => by rw [fC2]
  rw [← z0] at w1 w2
  rw [← z6] at w6
  rw [← z6, ← z7] at w7
  refine ⟨ak_cc_fr w1 (fun k => fC _ _ (by omega) (by omega) (by omega)) (fun k => fC _ _ (by omega) (by omega) (by omega)) (fun k => fC _ _ (by omega) (by omega) (by omega)) (fJ _ _) (fun k => fJ _ _), ak_cm_fr w2 (fun k h1 h2 => fM _ _ (by omega) (by omega) (by omega)) (fun k => fM _ _ (by omega) (by omega) (by omega)) (fun k => fM _ _ (by omega) (by omega) (by omega)) (fun k => fM _ _ (by omega) (by omega) (by omega)), ?_, ?_,
    ak_scs_fr w5 (fC _ _ (by omega) (by omega) (by omega)) (fun k => fC _ _ (by omega) (by omega) (by omega)) (fun k => fJ _ _) (fM _ _ (by omega) (by omega) (by omega)) (fun q k h1 h2 => fM _ _ (by omega) (by omega) (by omega)),
    ak_nms_fr w6 (fC _ _ (by omega) (by omega) (by omega)) (fun k => fJ _ _) (fM _ _ (by omega) (by omega) (by omega)) (fun k => fM _ _ (by omega) (by omega) (by omega)) (fun k => fM _ _ (by omega) (by omega) (by omega)),
    ak_sts_fr w7 (Nat.le_refl _) (fC _ _ (by omega) (by omega) (by omega)) (fun q k h1 h2 => fC _ _ (by omega) (by omega) (by omega)) (fun q k h1 h2 => fM _ _ (by omega) (by omega) (by omega)),
    ak_mths_fr w8 (fC _ _ (by omega) (by omega) (by omega)) (fun k => fJ _ _) (fun q k h1 h2 => fM _ _ (by omega) (by omega) (by omega)), s1, s2, s3, s4, s5, s6, s7, ?_⟩
  · rw [fM _ _ (by omega) (by omega) (by omega)]; exact w3
  · rw [fM _ _ (by omega) (by omega) (by omega)]; exact w4
  · rw [fC _ _ (by omega) (by omega) (by omega)]; exact w16
end PIFR
