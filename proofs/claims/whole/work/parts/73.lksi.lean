/-! a site read, both sides at once -/
def ak_fsC (u : Nat) (h h' : ak_S) : Prop := (∀ q k, ¬ (q = ak_T u ∧ (k = 6 ∨ k = 10)) → ¬ (q = 3 ∧ 7 ≤ k ∧ k ≤ 9) → ¬ (ak_T u + 15 ≤ q ∧ q ≤ ak_T u + 17) → h'.1 q k = h.1 q k) ∧ (∀ q k, q ≠ ak_T u + 14 → ¬ (q = 3 ∧ k = 10) → h'.2.1 q k = h.2.1 q k) ∧ h'.2.2 = h.2.2
def ak_fsM (h h' : ak_S) : Prop := (∀ q k, ¬ (127 ≤ q ∧ q ≤ 133) → ¬ (q = 110 ∧ 32 ≤ k ∧ k ≤ 36) → h'.1 q k = h.1 q k) ∧ h'.2 = h.2
section LKSI
variable {e : ak_X3} {d : Nat} {b : Nat → Int} {n m p u a N S : Nat} {hc hm : ak_S}
theorem ak_siC_at {k x w : Int} {q j : Nat} (h : ¬ (q = ak_T u ∧ j = 10)) (h2 : ¬ (ak_T u + 15 ≤ q ∧ q ≤ ak_T u + 17)) : (ak_siC hc u S k x w).1 q j = hc.1 q j := by
  show am_up (am_up (am_up (am_up hc.1 (ak_T u + 15) S k) (ak_T u + 16) S x) (ak_T u + 17) S w) (ak_T u) 10 ((S + 1 : Nat) : Int) q j = _
  rw [ak_up_out h, ak_up_out (fun z => h2 (by omega)), ak_up_out (fun z => h2 (by omega)), ak_up_out (fun z => h2 (by omega))]
theorem ak_siM_at {k x w : Int} {q j : Nat} (h : ¬ (127 ≤ q ∧ q ≤ 130)) : (ak_siM hm p S k x w).1 q j = hm.1 q j := by
  show am_up (am_up (am_up (am_up hm.1 128 (150 * p + S) k) 129 (150 * p + S) x) 130 (150 * p + S) w) 127 p ((S + 1 : Nat) : Int) q j = _
  rw [ak_up_out (fun z => h (by omega)), ak_up_out (fun z => h (by omega)), ak_up_out (fun z => h (by omega)), ak_up_out (fun z => h (by omega))]
theorem ak_cc_si (hu : u = 0 ∨ u = 1) {k x w : Int} (c : ak_cc b n m hc a) : ak_cc b n m (ak_siC hc u S k x w) a := by
  have hT := ak_T_in hu
  exact ak_cc_fr c (fun j => ak_siC_at (by omega) (by omega)) (fun j => ak_siC_at (by omega) (by omega)) (fun j => ak_siC_at (by omega) (by omega)) rfl (fun _ => rfl)
/-- the sites, one more on both sides: h, g are the states when it is written -/
theorem ak_sts_new {h g : ak_S} {N' : Nat} {k x w : Int} (st : ak_sts u p hc hm S N) (hN : N ≤ N') (hS : S < 150) (hx : 0 ≤ x ∧ x < (N' : Int))
    (f1 : ∀ i, h.1 (ak_T u + 15) i = hc.1 (ak_T u + 15) i ∧ h.1 (ak_T u + 16) i = hc.1 (ak_T u + 16) i ∧ h.1 (ak_T u + 17) i = hc.1 (ak_T u + 17) i) (f2 : ∀ i, g.1 128 i = (ak_siM hm p S k x w).1 128 i ∧ g.1 129 i = (ak_siM hm p S k x w).1 129 i ∧ g.1 130 i = (ak_siM hm p S k x w).1 130 i) (f3 : g.1 127 p = ((S + 1 : Nat) : Int)) :
    ak_sts u p (ak_siC h u S k x w) g (S + 1) N' := by
  obtain ⟨s1, s2, s3, s4⟩ := st
  refine ⟨by omega, by simp [ak_siC, am_up], f3, fun i hi => ?_⟩
  rw [(f2 _).1, (f2 _).2.1, (f2 _).2.2]
  by_cases h0 : i = S
  · subst h0
    refine ⟨by simp [ak_siC, ak_siM, am_up], by simp [ak_siC, ak_siM, am_up], by simp [ak_siC, ak_siM, am_up], ?_, ?_⟩
    · simp [ak_siM, am_up]; exact hx.1
    · simp [ak_siM, am_up]; exact hx.2
  · obtain ⟨t1, t2, t3, t4, t5⟩ := s4 i (by omega)
    have e1 := (f1 i).1
    have e2 := (f1 i).2.1
    have e3 := (f1 i).2.2
    refine ⟨?_, ?_, ?_, ?_, ?_⟩
    · rw [← t1.trans (show hm.1 128 (150 * p + i) = (ak_siM hm p S k x w).1 128 (150 * p + i) by simp [ak_siM, am_up, h0]), ← e1]; simp [ak_siC, am_up, h0]
    · rw [← t2.trans (show hm.1 129 (150 * p + i) = (ak_siM hm p S k x w).1 129 (150 * p + i) by simp [ak_siM, am_up, h0]), ← e2]; simp [ak_siC, am_up, h0]
    · rw [← t3.trans (show hm.1 130 (150 * p + i) = (ak_siM hm p S k x w).1 130 (150 * p + i) by simp [ak_siM, am_up, h0]), ← e3]; simp [ak_siC, am_up, h0]
    · have : (ak_siM hm p S k x w).1 129 (150 * p + i) = hm.1 129 (150 * p + i) := by simp [ak_siM, am_up, h0]
      rw [this]; exact t4
    · have : (ak_siM hm p S k x w).1 129 (150 * p + i) = hm.1 129 (150 * p + i) := by simp [ak_siM, am_up, h0]
      rw [this]; omega
end LKSI
