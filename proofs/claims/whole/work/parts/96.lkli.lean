/-! a block literal -/
section LKLI
variable {e : ak_X3} {d u p : Nat} {b : Nat → Int} {n m lv lv' o Mt : Nat} {D D' : Nat → Nat} {z z1 z' za zb : Nat → Nat} {hc hm hc0 hm0 hc1 hm1 hc' hm' : ak_S} {ρ : List Nat}
theorem ak_up_at1 {f : Nat → Nat → Int} {g : (Nat → Nat → Int) × Nat × Nat} {q k : Nat} {v : Int} : ((am_up f q k v, g) : ak_S).1 q k = v := ak_up_at
theorem ak_up_out1 {f : Nat → Nat → Int} {g : (Nat → Nat → Int) × Nat × Nat} {q k q' k' : Nat} {v : Int} (h : ¬ (q' = q ∧ k' = k)) : ((am_up f q k v, g) : ak_S).1 q' k' = f q' k' := ak_up_out h
theorem ak_up_comm {f : Nat → Nat → Int} {q k q' k' : Nat} {v v' : Int} (h : ¬ (q = q' ∧ k = k')) : am_up (am_up f q k v) q' k' v' = am_up (am_up f q' k' v') q k v := by
  funext a c
  by_cases h1 : a = q ∧ c = k
  · obtain ⟨rfl, rfl⟩ := h1
    rw [ak_up_out (by omega), ak_up_at, ak_up_at]
  · by_cases h2 : a = q' ∧ c = k'
    · obtain ⟨rfl, rfl⟩ := h2
      rw [ak_up_at, ak_up_out h1, ak_up_at]
    · rw [ak_up_out h2, ak_up_out h1, ak_up_out h1, ak_up_out h2]
theorem ak_up_congr {f g : Nat → Nat → Int} {q k a c : Nat} {v : Int} (h : f a c = g a c) : am_up f q k v a c = am_up g q k v a c := by
  by_cases h1 : a = q ∧ c = k
  · obtain ⟨rfl, rfl⟩ := h1
    rw [ak_up_at, ak_up_at]
  · rw [ak_up_out h1, ak_up_out h1, h]
theorem ak_ext_C (w : ak_ext u p z z' hc0 hm0 hc hm) {q k : Nat} {v : Int} (hu : u = 0 ∨ u = 1) (hq : ak_T u ≤ q ∧ q ≤ ak_T u + 20) (c1 : q = ak_T u + 2 ∨ q = ak_T u + 3 → z 1 ≤ k) (c2 : ak_T u + 4 ≤ q ∧ q ≤ ak_T u + 6 → z 3 ≤ k) (c3 : ak_T u + 7 ≤ q ∧ q ≤ ak_T u + 9 → z 4 ≤ k) (c4 : ak_T u + 18 ≤ q → z 5 ≤ k)
    (c5 : q ≠ ak_T u + 10 ∧ q ≠ ak_T u + 12 ∧ q ≠ ak_T u + 13) : ak_ext u p z z' hc0 hm0 (am_up hc.1 q k v, hc.2) hm := by
  have hT := ak_T_in hu
  obtain ⟨e1, ⟨a1, a2, a3, a4, a5⟩, e3, e4, e5, e6, e7, e8, e9, e10⟩ := w
  refine ⟨e1, ⟨fun j h1 h2 => ?_, fun j h1 h2 => ?_, fun j h1 h2 => ?_, fun j h1 h2 => ?_, a5⟩, fun j h1 h2 => ?_, ak_pC_upI e4 (Or.inr (Or.inr (Or.inr hq))), e5, (ak_up_out (by omega)).trans e6, fun j => ⟨(ak_up_out (by omega)).trans (e7 j).1, (ak_up_out (by omega)).trans (e7 j).2⟩, e8, e9, e10⟩
  · obtain ⟨x1, x2⟩ := a1 j h1 h2
    exact ⟨(ak_up_out (by omega)).trans x1, (ak_up_out (by omega)).trans x2⟩
  · obtain ⟨x1, x2, x3⟩ := a2 j h1 h2
    exact ⟨(ak_up_out (by omega)).trans x1, (ak_up_out (by omega)).trans x2, (ak_up_out (by omega)).trans x3⟩
  · obtain ⟨x1, x2, x3, x4⟩ := a3 j h1 h2
    exact ⟨(ak_up_out (by omega)).trans x1, (ak_up_out (by omega)).trans x2, (ak_up_out (by omega)).trans x3, (ak_up_out (by omega)).trans x4⟩
  · obtain ⟨x1, x2, x3, x4, x5⟩ := a4 j h1 h2
    exact ⟨(ak_up_out (by omega)).trans x1, (ak_up_out (by omega)).trans x2, (ak_up_out (by omega)).trans x3, x4, x5⟩
  · have g : am_up hc.1 q k v (ak_T u + 10) j = hc.1 (ak_T u + 10) j := ak_up_out (by omega)
    show _ ≤ am_up hc.1 q k v (ak_T u + 10) j ∧ am_up hc.1 q k v (ak_T u + 10) j < _
    rw [g]
    exact e3 j h1 h2
theorem ak_ext_M (w : ak_ext u p z z' hc0 hm0 hc hm) {q k : Nat} {v : Int} (hq : (q = 134 ∧ k = p) ∨ ((q = 135 ∨ q = 136) ∧ 60 * p + z 5 ≤ k ∧ k < 60 * p + 60)) : ak_ext u p z z' hc0 hm0 hc (am_up hm.1 q k v, hm.2) := by
  obtain ⟨e1, ⟨a1, a2, a3, a4, a5⟩, e3, e4, e5, e6, e7, e8, e9, e10⟩ := w
  refine ⟨e1, ⟨a1, a2, a3, fun j h1 h2 => ?_, fun q' j h1 h2 h3 h4 h5 => (ak_up_out (by omega)).trans (a5 q' j h1 h2 h3 h4 h5)⟩, e3, e4, ak_pM_upI e5 ?_, e6, e7, fun q' j h1 h2 => (ak_up_out (by omega)).trans (e8 q' j h1 h2), e9, e10⟩
  · obtain ⟨x1, x2, x3, x4, x5⟩ := a4 j h1 h2
    exact ⟨x1, x2, x3, (ak_up_out (by omega)).trans x4, (ak_up_out (by omega)).trans x5⟩
  · rcases hq with ⟨h1, h2⟩ | ⟨h1, h2, h3⟩
    · exact Or.inr (Or.inr (Or.inl ⟨Or.inr (Or.inr (Or.inr (Or.inr h1))), h2⟩))
    · exact Or.inr (Or.inr (Or.inr (Or.inr (Or.inr (Or.inr (Or.inl ⟨h1, by omega, h3⟩))))))
theorem ak_PI_C (hu : u = 0 ∨ u = 1) (w : ak_PI u p b n m lv D o Mt z hc hm) {q k : Nat} {v : Int} (hq : (ak_T u + 2 ≤ q ∧ q ≤ ak_T u + 10) ∨ (ak_T u + 18 ≤ q ∧ q ≤ ak_T u + 20)) : ak_PI u p b n m lv D o Mt z (am_up hc.1 q k v, hc.2) hm := by
  obtain ⟨w9, w10, w11, w12, w13, w14, w15, w16⟩ := w.2.2.2.2.2.2.2.2
  exact ak_PI_fr hu w (fun q' j h1 h2 h3 => ak_up_out (by omega)) rfl (fun _ _ _ _ _ => rfl) rfl rfl rfl ((ak_up_out (by omega)).trans w9) w10 ((ak_up_out (by omega)).trans w11) ((ak_up_out (by omega)).trans w12) ((ak_up_out (by omega)).trans w13) w14 w15
theorem ak_PI_M (hu : u = 0 ∨ u = 1) (w : ak_PI u p b n m lv D o Mt z hc hm) {q k : Nat} {v : Int} (hq : q = 135 ∨ q = 136) : ak_PI u p b n m lv D o Mt z hc (am_up hm.1 q k v, hm.2) := by
  obtain ⟨w9, w10, w11, w12, w13, w14, w15, w16⟩ := w.2.2.2.2.2.2.2.2
  exact ak_PI_fr hu w (fun _ _ _ _ _ => rfl) rfl (fun q' j h1 h2 h3 => ak_up_out (by omega)) rfl rfl rfl w9 ((ak_up_out (by omega)).trans w10) w11 w12 w13 ((ak_up_out (by omega)).trans w14) w15
theorem ak_PI_lit (hu : u = 0 ∨ u = 1) (w : ak_PI u p b n m lv D o Mt z hc hm) (h60 : z 5 < 60) : ak_PI u p b n m lv D o Mt (ak_zu z 5 (z 5 + 1)) (am_up hc.1 (ak_T u) 14 ((z 5 + 1 : Nat) : Int), hc.2) (am_up hm.1 134 p ((z 5 + 1 : Nat) : Int), hm.2) := by
  obtain ⟨w9, w10, w11, w12, w13, w14, w15, w16⟩ := w.2.2.2.2.2.2.2.2
  exact ak_PI_fr hu w (fun q' j h1 h2 h3 => ak_up_out1 h3) rfl (fun q' j h1 h2 h3 => ak_up_out1 (by omega)) rfl rfl rfl ((ak_up_out1 (by omega)).trans w9) ((ak_up_out1 (by omega)).trans w10) ((ak_up_out1 (by omega)).trans w11) ((ak_up_out1 (by omega)).trans w12) ak_up_at1 ak_up_at1 (show z 5 + 1 ≤ 60 by omega)
theorem ak_PI_D (w : ak_PI u p b n m lv D' o Mt z hc hm) (h : ∀ s, s ≤ lv → D' s = D s) : ak_PI u p b n m lv D o Mt z hc hm := by
  obtain ⟨w1, w2, w3, w4, ⟨s1, s2, s3, s4⟩, w6⟩ := w
  exact ⟨w1, w2, w3, w4, ⟨s1, s2, s3, fun s hs => by rw [← h s hs]; exact s4 s hs⟩, w6⟩
/-- a scope left -/
theorem ak_scs_dn (sc : ak_scs b n hc hm (lv + 1) D) : ak_scs b n (am_up hc.1 2 5 (lv : Int), hc.2) (am_up hm.1 110 42 ((lv + 1 : Nat) : Int), hm.2) lv D := by
  obtain ⟨s1, s2, s3, s4⟩ := sc
  refine ⟨ak_up_at1, by omega, ak_up_at1, fun s hs => ?_⟩
  obtain ⟨d1, d2, d3, d4⟩ := s4 s (by omega)
  have e1 : ∀ k, am_up hm.1 110 42 ((lv + 1 : Nat) : Int) 139 k = hm.1 139 k := fun k => ak_up_out (by omega)
  have e2 : ∀ k, am_up hm.1 110 42 ((lv + 1 : Nat) : Int) 140 k = hm.1 140 k := fun k => ak_up_out (by omega)
  refine ⟨d1, (ak_up_out1 (by omega)).trans d2, (ak_up_out1 (by omega)).trans d3, ?_⟩
  show ak_wds b n (fun k => hc.2.1 30 (12 * s + k)) (fun k => am_up hm.1 110 42 ((lv + 1 : Nat) : Int) 139 (12 * s + k)) (fun k => am_up hm.1 110 42 ((lv + 1 : Nat) : Int) 140 (12 * s + k)) (D s)
  rw [show (fun k => am_up hm.1 110 42 ((lv + 1 : Nat) : Int) 139 (12 * s + k)) = fun k => hm.1 139 (12 * s + k) from funext (fun k => e1 _), show (fun k => am_up hm.1 110 42 ((lv + 1 : Nat) : Int) 140 (12 * s + k)) = fun k => hm.1 140 (12 * s + k) from funext (fun k => e2 _)]
  exact d4
theorem ak_scs_upp (sc : ak_scs b n hc hm lv D) (hl : lv + 1 ≤ 20) : ak_scs b n (am_up (am_up hc.1 2 5 ((lv + 1 : Nat) : Int)) 31 (lv + 1) 0, hc.2) (am_up (am_up hm.1 138 (lv + 1) 0) 110 42 ((lv + 2 : Nat) : Int), hm.2) (lv + 1) (fun s => if s = lv + 1 then 0 else D s) := by
  obtain ⟨s1, s2, s3, s4⟩ := sc
  have e1 : ∀ k, am_up (am_up hm.1 138 (lv + 1) 0) 110 42 ((lv + 2 : Nat) : Int) 139 k = hm.1 139 k := fun k => (ak_up_out (by omega)).trans (ak_up_out (by omega))
  have e2 : ∀ k, am_up (am_up hm.1 138 (lv + 1) 0) 110 42 ((lv + 2 : Nat) : Int) 140 k = hm.1 140 k := fun k => (ak_up_out (by omega)).trans (ak_up_out (by omega))
  refine ⟨(ak_up_out1 (by omega)).trans ak_up_at, by omega, ak_up_at1, fun s hs => ?_⟩
  by_cases h : s = lv + 1
  · subst h
    refine ⟨by simp, ?_, ?_, fun k hk => ?_⟩
    · show am_up (am_up hc.1 2 5 ((lv + 1 : Nat) : Int)) 31 (lv + 1) 0 31 (lv + 1) = _
      rw [ak_up_at]; simp
    · show am_up (am_up hm.1 138 (lv + 1) 0) 110 42 ((lv + 2 : Nat) : Int) 138 (lv + 1) = _
      rw [ak_up_out (by omega), ak_up_at]; simp
    · dsimp only at hk
      rw [if_pos rfl] at hk
      omega
  · obtain ⟨d1, d2, d3, d4⟩ := s4 s (by omega)
    dsimp only
    rw [if_neg h]
    refine ⟨d1, (ak_up_out1 (by omega)).trans ((ak_up_out (by omega)).trans d2), (ak_up_out1 (by omega)).trans ((ak_up_out (by omega)).trans d3), ?_⟩
    show ak_wds b n (fun k => hc.2.1 30 (12 * s + k)) (fun k => am_up (am_up hm.1 138 (lv + 1) 0) 110 42 ((lv + 2 : Nat) : Int) 139 (12 * s + k)) (fun k => am_up (am_up hm.1 138 (lv + 1) 0) 110 42 ((lv + 2 : Nat) : Int) 140 (12 * s + k)) (D s)
    rw [show (fun k => am_up (am_up hm.1 138 (lv + 1) 0) 110 42 ((lv + 2 : Nat) : Int) 139 (12 * s + k)) = fun k => hm.1 139 (12 * s + k) from funext (fun k => e1 _), show (fun k => am_up (am_up hm.1 138 (lv + 1) 0) 110 42 ((lv + 2 : Nat) : Int) 140 (12 * s + k)) = fun k => hm.1 140 (12 * s + k) from funext (fun k => e2 _)]
    exact d4
/-- the closing bracket of a literal, and its scope left -/
theorem lk_close_lv {t : Int} {dm : Nat} (hu : u = 0 ∨ u = 1) (w : ak_PI u p b n m (lv + 1) D (o + 1) Mt z hc hm) (hl : lv ≤ o) (hk : ak_kd b n (ak_st b n (z 0)) = t) (C1 : ak_cc b n m hc' (z 0 + 1)) (fr : ak_afr hc hc') :
    ∃ hm', ak_PI u p b n m lv D o Mt (ak_zu z 0 (z 0 + 1)) (am_up hc'.1 2 5 (lv : Int), hc'.2) (am_up hm'.1 110 42 ((lv + 1 : Nat) : Int), hm'.2) ∧ ak_goV e (dm + 5) ρ 211 [am_r 110, am_i t] hm hm' ∧ (∀ q k, q ≠ 110 → hm'.1 q k = hm.1 q k) ∧ hm'.1 110 42 = ((lv + 2 : Nat) : Int) ∧ hm'.1 110 31 = hm.1 110 31 ∧ hm'.1 110 37 = hm.1 110 37 ∧ ak_pM p hm hm' ∧ hm'.2 = hm.2 := by
  have hst := (ak_st_n w).1
  have ho := w.2.2.2.1.2
  have sc := w.2.2.2.2.1
  obtain ⟨hm3, ⟨hm2, M2, fr', rfl⟩, rd⟩ := ak_MV_get (e := e) (r := 1) (d := dm + 5) (ρ := ρ) (am_s211 (d := dm) (X := ak_F) (Q := fun h => ∃ h', ak_cm b n p h' (z 0 + 1) ∧ ak_rfr hm h' ∧ h = (am_up h'.1 110 38 (o : Int), h'.2)) w.2.2.1 w.2.1 hst w.2.2.2.1.1 (by omega) (fun _ h' c f => ⟨h', c, f, rfl⟩) (fun q => absurd hk q))
  have wX : ak_PI u p b n m lv D (o + 1) Mt z (am_up hc.1 2 5 (lv : Int), hc.2) (am_up hm.1 110 42 ((lv + 1 : Nat) : Int), hm.2) := ak_PI_sc hu w (ak_scs_dn sc) (fun q k h1 h2 => ak_up_out1 h2) (fun q k h => rfl) (fun q k h1 h2 => ak_up_out1 h2) (by omega)
  have C1X : ak_cc b n m (am_up hc'.1 2 5 (lv : Int), hc'.2) (z 0 + 1) := ak_cc_fr C1 (fun k => ak_up_out1 (by omega)) (fun k => ak_up_out1 (by omega)) (fun k => ak_up_out1 (by omega)) rfl (fun _ => rfl)
  have frX : ak_afr (am_up hc.1 2 5 (lv : Int), hc.2) (am_up hc'.1 2 5 (lv : Int), hc'.2) := ⟨fun q k h => ak_up_congr (fr.1 q k h), fr.2⟩
  have M2X : ak_cm b n p (am_up hm2.1 110 42 ((lv + 1 : Nat) : Int), hm2.2) (z 0 + 1) := ak_cm_fr M2 (fun k h1 h2 => ak_up_out1 (by omega)) (fun k => ak_up_out1 (by omega)) (fun k => ak_up_out1 (by omega)) (fun k => ak_up_out1 (by omega))
  have frM : ak_rfr (am_up hm.1 110 42 ((lv + 1 : Nat) : Int), hm.2) (am_up hm2.1 110 42 ((lv + 1 : Nat) : Int), hm2.2) := ⟨fun q k h => ak_up_congr (fr'.1 q k h), fr'.2⟩
  have I := ak_PI_open (ak_PI_step hu wX C1X frX M2X frM) (o' := o) (by omega) hl
  have cm : am_up (am_up hm2.1 110 42 ((lv + 1 : Nat) : Int)) 110 38 (o : Int) = am_up (am_up hm2.1 110 38 (o : Int)) 110 42 ((lv + 1 : Nat) : Int) := ak_up_comm (by omega)
  have f110 : ∀ k, k ≠ 38 → ¬ (32 ≤ k ∧ k ≤ 36) → am_up hm2.1 110 38 (o : Int) 110 k = hm.1 110 k := fun k h1 h2 => (ak_up_out (fun g => h1 g.2)).trans (fr'.1 110 k (fun g => h2 g.2))
  refine ⟨_, ?_, fun P Y q => rd P Y q, fun q k h => (ak_up_out1 (fun g => h g.1)).trans (fr'.1 q k (fun g => h g.1)), (f110 42 (by decide) (by decide)).trans sc.2.2.1, f110 31 (by decide) (by decide), f110 37 (by decide) (by decide), ak_pM_upI (ak_pM_rfr fr') (Or.inl ⟨rfl, by omega⟩), fr'.2⟩
  have I' : ak_PI u p b n m lv D o Mt (ak_zu z 0 (z 0 + 1)) (am_up hc'.1 2 5 (lv : Int), hc'.2) (am_up (am_up hm2.1 110 42 ((lv + 1 : Nat) : Int)) 110 38 (o : Int), hm2.2) := I
  rw [cm] at I'
  exact I'
end LKLI
