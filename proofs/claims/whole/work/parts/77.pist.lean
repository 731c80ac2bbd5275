/-! single steps of reading -/
def ak_zu (z : Nat → Nat) (i v : Nat) : Nat → Nat := fun j => if j = i then v else z j
section PIST
variable {u p : Nat} {b : Nat → Int} {n m lv o Mt : Nat} {D : Nat → Nat} {z z' : Nat → Nat} {hc hm hc' hm' hc0 hm0 : ak_S}
theorem ak_zu_eq {i v : Nat} : ak_zu z i v i = v := if_pos rfl
theorem ak_zu_ne {i v j : Nat} (h : j ≠ i) : ak_zu z i v j = z j := if_neg h
theorem ak_zu_le {i v : Nat} (h : z i ≤ v) (j : Nat) : z j ≤ ak_zu z i v j := by
  unfold ak_zu
  split
  · rename_i q; rw [q]; exact h
  · exact Nat.le_refl _
/-- a token read on both sides -/
theorem ak_PI_step (hu : u = 0 ∨ u = 1) (w : ak_PI u p b n m lv D o Mt z hc hm) (C : ak_cc b n m hc' (z 0 + 1)) (fr : ak_afr hc hc') (M : ak_cm b n p hm' (z 0 + 1)) (fr' : ak_rfr hm hm') : ak_PI u p b n m lv D o Mt (ak_zu z 0 (z 0 + 1)) hc' hm' := by
  have hT := ak_T_in hu
  obtain ⟨w1, w2, w3, w4, w5, w6, w7, w8, w9, w10, w11, w12, w13, w14, w15, w16⟩ := w
  have fC : ∀ q k, q ≠ 3 → hc'.1 q k = hc.1 q k := fun q k h => fr.1 q k (fun z => h z.1)
  have fJ : ∀ q k, q ≠ 3 → hc'.2.1 q k = hc.2.1 q k := fun q k h => fr.2.1 q k (fun z => h z.1)
  have fM : ∀ q k, ¬ (q = 110 ∧ 32 ≤ k ∧ k ≤ 36) → hm'.1 q k = hm.1 q k := fr'.1
  refine ⟨C, M, ?_, ?_, ak_scs_fr w5 (fC _ _ (by omega)) (fun k => fC _ _ (by omega)) (fun k => fJ _ _ (by omega)) (fM _ _ (by omega)) (fun q k h1 h2 => fM _ _ (by omega)),
    ak_nms_fr w6 (fC _ _ (by omega)) (fun k => fJ _ _ (by omega)) (fM _ _ (by omega)) (fun k => fM _ _ (by omega)) (fun k => fM _ _ (by omega)),
    ak_sts_fr w7 (Nat.le_refl _) (fC _ _ (by omega)) (fun q k h1 h2 => fC _ _ (by omega)) (fun q k h1 h2 => fM _ _ (by omega)),
    ak_mths_fr w8 (fC _ _ (by omega)) (fun k => fJ _ _ (by omega)) (fun q k h1 h2 => fM _ _ (by omega)), ?_, ?_, ?_, ?_, ?_, ?_, w15, ?_⟩
  · rw [fM _ _ (by omega)]; exact w3
  · rw [fM _ _ (by omega)]; exact w4
  · rw [fC _ _ (by omega)]; exact w9
  · rw [fM _ _ (by omega)]; exact w10
  · rw [fC _ _ (by omega)]; exact w11
  · rw [fC _ _ (by omega)]; exact w12
  · rw [fC _ _ (by omega)]; exact w13
  · rw [fM _ _ (by omega)]; exact w14
  · rw [fC _ _ (by omega)]; exact w16
/-- alike where a text is held: what was made is left alone -/
theorem ak_ext_of (hz : ∀ i, i ≤ 7 → z i ≤ z' i) (fC : ∀ q k, ak_T u + 2 ≤ q → q ≤ ak_T u + 20 → ((q = ak_T u + 2 ∨ q = ak_T u + 3) → k < z 1) → ((ak_T u + 4 ≤ q ∧ q ≤ ak_T u + 6) → k < z 3) → ((ak_T u + 7 ≤ q ∧ q ≤ ak_T u + 10) → k < z 4) → (ak_T u + 18 ≤ q → k < z 5) → ¬ (ak_T u + 14 ≤ q ∧ q ≤ ak_T u + 17) → hc'.1 q k = hc.1 q k)
    (fM : ∀ q k, 114 ≤ q → q ≤ 136 → (q ≤ 120 → k < 9000 * p + z 2) → (135 ≤ q → k < 60 * p + z 5) → ¬ (127 ≤ q ∧ q ≤ 134) → ¬ (121 ≤ q ∧ q ≤ 124) → hm'.1 q k = hm.1 q k) (on : ∀ j, z 4 ≤ j → j < z' 4 → (z 3 : Int) ≤ hc'.1 (ak_T u + 10) j ∧ hc'.1 (ak_T u + 10) j < (z' 3 : Int))
    (pc : ak_pC u hc hc') (pm : ak_pM p hm hm') (f6 : hc'.1 2 6 = hc.1 2 6) (g1 : hc'.2.2 = hc.2.2) (g2 : hm'.2.2 = hm.2.2) : ak_ext u p z z' hc hm hc' hm' := by
  refine ⟨hz, ⟨fun k _ h => ⟨fC _ _ ?_ ?_ ?_ ?_ ?_ ?_ ?_, fC _ _ ?_ ?_ ?_ ?_ ?_ ?_ ?_⟩, fun k _ h => ⟨fC _ _ ?_ ?_ ?_ ?_ ?_ ?_ ?_, fC _ _ ?_ ?_ ?_ ?_ ?_ ?_ ?_, fC _ _ ?_ ?_ ?_ ?_ ?_ ?_ ?_⟩, fun k _ h => ⟨fC _ _ ?_ ?_ ?_ ?_ ?_ ?_ ?_, fC _ _ ?_ ?_ ?_ ?_ ?_ ?_ ?_, fC _ _ ?_ ?_ ?_ ?_ ?_ ?_ ?_, fC _ _ ?_ ?_ ?_ ?_ ?_ ?_ ?_⟩,
    fun k _ h => ⟨fC _ _ ?_ ?_ ?_ ?_ ?_ ?_ ?_, fC _ _ ?_ ?_ ?_ ?_ ?_ ?_ ?_, fC _ _ ?_ ?_ ?_ ?_ ?_ ?_ ?_, fM _ _ ?_ ?_ ?_ ?_ ?_ ?_, fM _ _ ?_ ?_ ?_ ?_ ?_ ?_⟩, fun q k h1 h2 _ h4 _ => fM _ _ ?_ ?_ ?_ ?_ ?_ ?_⟩, on, pc, pm, f6, fun k => ⟨fC _ _ ?_ ?_ ?_ ?_ ?_ ?_ ?_, fC _ _ ?_ ?_ ?_ ?_ ?_ ?_ ?_⟩, fun q k h1 h2 => fM _ _ ?_ ?_ ?_ ?_ ?_ ?_, g1, g2⟩ <;> omega
theorem ak_ext_step (hu : u = 0 ∨ u = 1) (fr : ak_afr hc hc') (fr' : ak_rfr hm hm') : ak_ext u p z (ak_zu z 0 (z 0 + 1)) hc hm hc' hm' := by
  have hT := ak_T_in hu
  exact ak_ext_of (fun i _ => ak_zu_le (Nat.le_succ _) i) (fun q k h1 h2 _ _ _ _ _ => fr.1 _ _ (by omega)) (fun q k h1 h2 _ _ _ _ => fr'.1 _ _ (by omega)) (fun j h1 h2 => absurd (show j < z 4 from h2) (by omega)) (ak_pC_afr fr) (ak_pM_rfr fr') (fr.1 _ _ (by omega)) fr.2.2 (congrArg (fun y => y.2) fr'.2)
/-- an order more -/
theorem ak_PI_put (hu : u = 0 ∨ u = 1) (w : ak_PI u p b n m lv D o Mt z hc hm) {r x : Int} : ak_PI u p b n m lv D o Mt (ak_zu z 1 (z 1 + 1)) (ak_put hc u (z 1) r x) hm := by
  have hT := ak_T_in hu
  obtain ⟨w9, w10, w11, w12, w13, w14, w15, w16⟩ := w.2.2.2.2.2.2.2.2
  have f : ∀ q k, ¬ (q = ak_T u + 2 ∧ k = z 1) → ¬ (q = ak_T u + 3 ∧ k = z 1) → ¬ (q = ak_T u + 1 ∧ k = 2) → (ak_put hc u (z 1) r x).1 q k = hc.1 q k := fun q k h1 h2 h3 => (ak_up_out h3).trans ((ak_up_out h2).trans (ak_up_out h1))
  refine ak_PI_fr hu w (fun q k h1 h2 h3 => f q k (by omega) (by omega) (by omega)) rfl (fun q k _ _ _ => rfl) rfl rfl rfl ?_ w10 ?_ ?_ ?_ w14 w15
  · simp [ak_put, am_up, ak_zu]
  · rw [f _ _ (by omega) (by omega) (by omega)]; exact w11
  · rw [f _ _ (by omega) (by omega) (by omega)]; exact w12
  · rw [f _ _ (by omega) (by omega) (by omega)]; exact w13
theorem ak_ext_put (hu : u = 0 ∨ u = 1) {r x : Int} : ak_ext u p z (ak_zu z 1 (z 1 + 1)) hc hm (ak_put hc u (z 1) r x) hm := by
  have hT := ak_T_in hu
  have f : ∀ q k, ¬ (q = ak_T u + 2 ∧ k = z 1) → ¬ (q = ak_T u + 3 ∧ k = z 1) → ¬ (q = ak_T u + 1 ∧ k = 2) → (ak_put hc u (z 1) r x).1 q k = hc.1 q k := fun q k h1 h2 h3 => (ak_up_out h3).trans ((ak_up_out h2).trans (ak_up_out h1))
  exact ak_ext_of (fun i _ => ak_zu_le (Nat.le_succ _) i) (fun q k h1 h2 h3 _ _ _ _ => f q k (by omega) (by omega) (by omega)) (fun q k _ _ _ _ _ _ => rfl) (fun j h1 h2 => absurd (show j < z 4 from h2) (by omega)) ak_pC_put ak_pM_refl (f _ _ (by omega) (by omega) (by omega)) rfl rfl
/-- a node more -/
theorem ak_node_at {k w : Int} {y q j : Nat} (h : ¬ (114 ≤ q ∧ q ≤ 120 ∧ j = 9000 * p + y)) (h2 : ¬ (q = 121 ∧ j = p)) : (ak_node hm p y k w).1 q j = hm.1 q j := by
  unfold ak_node
  dsimp only
  rw [ak_up_out (by omega), ak_up_out (by omega), ak_up_out (by omega), ak_up_out (by omega), ak_up_out (by omega), ak_up_out (by omega), ak_up_out (by omega), ak_up_out (by omega)]
theorem ak_PI_node (hu : u = 0 ∨ u = 1) (w : ak_PI u p b n m lv D o Mt z hc hm) {k r : Int} : ak_PI u p b n m lv D o Mt (ak_zu z 2 (z 2 + 1)) hc (ak_node hm p (z 2) k r) := by
  obtain ⟨w9, w10, w11, w12, w13, w14, w15, w16⟩ := w.2.2.2.2.2.2.2.2
  refine ak_PI_fr hu w (fun _ _ _ _ _ => rfl) rfl (fun q k h1 h2 h3 => ak_node_at (by omega) (by omega)) rfl rfl rfl w9 ?_ w11 w12 w13 ?_ w15
  · unfold ak_node
    simp [am_up, ak_zu]
  · rw [ak_node_at (by omega) (by omega)]; exact w14
theorem ak_ext_node {k r : Int} (hz : z 2 < 9000) : ak_ext u p z (ak_zu z 2 (z 2 + 1)) hc hm hc (ak_node hm p (z 2) k r) :=
  ak_ext_of (fun i _ => ak_zu_le (Nat.le_succ _) i) (fun _ _ _ _ _ _ _ _ _ => rfl) (fun q k h1 h2 h3 _ _ _ => ak_node_at (by omega) (by omega)) (fun j h1 h2 => absurd (show j < z 4 from h2) (by omega)) ak_pC_refl (ak_pM_node hz) rfl rfl rfl
/-- a node's cell written -/
theorem ak_PI_cell (hu : u = 0 ∨ u = 1) (w : ak_PI u p b n m lv D o Mt z hc hm) {q k : Nat} {v : Int} (hq : (114 ≤ q ∧ q ≤ 120) ∨ (q = 110 ∧ 43 ≤ k ∧ k ≤ 45)) : ak_PI u p b n m lv D o Mt z hc (am_up hm.1 q k v, hm.2) := by
  obtain ⟨w9, w10, w11, w12, w13, w14, w15, w16⟩ := w.2.2.2.2.2.2.2.2
  refine ak_PI_fr hu w (fun _ _ _ _ _ => rfl) rfl (fun q k h1 h2 h3 => ak_up_out (by omega)) rfl rfl rfl w9 ?_ w11 w12 w13 ?_ w15
  · exact (ak_up_out (by omega)).trans w10
  · exact (ak_up_out (by omega)).trans w14
theorem ak_ext_cell (w : ak_ext u p z z' hc0 hm0 hc hm) {q k : Nat} {v : Int} (hq : 114 ≤ q ∧ q ≤ 120) (hk : 9000 * p + z 2 ≤ k) (hk2 : k < 9000 * p + 9000) : ak_ext u p z z' hc0 hm0 hc (am_up hm.1 q k v, hm.2) := by
  obtain ⟨e1, ⟨a1, a2, a3, a4, a5⟩, e3, e4, e5, e6, e7, e8, e9, e10⟩ := w
  refine ⟨e1, ⟨a1, a2, a3, fun j h1 h2 => ?_, fun q' j h1 h2 h3 h4 h5 => (ak_up_out (by omega)).trans (a5 q' j h1 h2 h3 h4 h5)⟩, e3, e4, ak_pM_upI e5 (Or.inr (Or.inl ⟨hq.1, hq.2, by omega, hk2⟩)), e6, e7, fun q' j h1 h2 => (ak_up_out (by omega)).trans (e8 q' j h1 h2), e9, e10⟩
  obtain ⟨x1, x2, x3, x4, x5⟩ := a4 j h1 h2
  exact ⟨x1, x2, x3, (ak_up_out (by omega)).trans x4, (ak_up_out (by omega)).trans x5⟩
theorem ak_ext_note (w : ak_ext u p z z' hc0 hm0 hc hm) {k : Nat} {v : Int} (hk : (32 ≤ k ∧ k ≤ 38) ∨ (42 ≤ k ∧ k ≤ 45)) : ak_ext u p z z' hc0 hm0 hc (am_up hm.1 110 k v, hm.2) := by
  obtain ⟨e1, ⟨a1, a2, a3, a4, a5⟩, e3, e4, e5, e6, e7, e8, e9, e10⟩ := w
  refine ⟨e1, ⟨a1, a2, a3, fun j h1 h2 => ?_, fun q' j h1 h2 h3 h4 h5 => (ak_up_out (by omega)).trans (a5 q' j h1 h2 h3 h4 h5)⟩, e3, e4, ak_pM_upI e5 (Or.inl ⟨rfl, hk⟩), e6, e7, fun q' j h1 h2 => (ak_up_out (by omega)).trans (e8 q' j h1 h2), e9, e10⟩
  obtain ⟨x1, x2, x3, x4, x5⟩ := a4 j h1 h2
  exact ⟨x1, x2, x3, (ak_up_out (f := hm.1) (p := 110) (k := k) (q := 135) (v := v) (fun g => absurd g.1 (by decide))).trans x4, (ak_up_out (f := hm.1) (p := 110) (k := k) (q := 136) (v := v) (fun g => absurd g.1 (by decide))).trans x5⟩
/-- brackets -/
theorem ak_PI_open (w : ak_PI u p b n m lv D o Mt z hc hm) {o' : Nat} (ho : o' ≤ 20) (hl : lv ≤ o') : ak_PI u p b n m lv D o' Mt z hc (am_up hm.1 110 38 (o' : Int), hm.2) := by
  obtain ⟨w1, w2, w3, w4, w5, w6, w7, w8, w9, w10, w11, w12, w13, w14, w15, w16⟩ := w
  have f : ∀ q k, q ≠ 110 → am_up hm.1 110 38 (o' : Int) q k = hm.1 q k := fun q k h => ak_up_out (fun g => h g.1)
  have f' : ∀ k, k ≠ 38 → am_up hm.1 110 38 (o' : Int) 110 k = hm.1 110 k := fun k h => ak_up_out (fun g => h g.2)
  refine ⟨w1, ak_cm_fr w2 (fun k h1 h2 => f' k (by omega)) (fun k => f 112 k (by decide)) (fun k => f 113 k (by decide)) (fun k => f 137 k (by decide)), ?_, ⟨by simp [am_up], ho⟩, ak_scs_fr w5 rfl (fun _ => rfl) (fun _ => rfl) (f' 42 (by decide)) (fun q k h1 h2 => f q k (by omega)),
    ak_nms_fr w6 rfl (fun _ => rfl) (f 131 p (by decide)) (fun k => f 132 k (by decide)) (fun k => f 133 k (by decide)), ak_sts_fr w7 (Nat.le_refl _) rfl (fun _ _ _ _ => rfl) (fun q k h1 h2 => f q k (by omega)), ak_mths_fr w8 rfl (fun _ => rfl) (fun q k h1 h2 => f q k (by omega)), w9, ?_, w11, w12, w13, ?_, w15, w16.1, hl⟩
  · show am_up hm.1 110 38 (o' : Int) 110 37 < 0
    rw [f' 37 (by decide)]; exact w3
  · exact (f 121 p (by decide)).trans w10
  · exact (f 134 p (by decide)).trans w14
end PIST
