/-! a statement; all at once -/
section LKALL
variable {e : ak_X3} {d dd dm u p : Nat} {b : Nat → Int} {n m lv o Mt : Nat} {D : Nat → Nat} {z : Nat → Nat} {hc hm : ak_S} {ρ : List Nat}
theorem lk_stmt {ρ0 ρ3 ρ4 t : Nat} (hu : u = 0 ∨ u = 1) (hE : ak_EX e u p b n m ρ0 ρ3 ρ4 ρ 34 222 13 13 t) (hS : ∀ t', t' < t → ak_SX e u p b n m ρ0 ρ3 ρ4 ρ t') : ak_YX e u p b n m ρ0 ρ3 ρ4 ρ t := by
  intro lv D o Mt z hc hm d w pt ht
  have rm := ak_room w (by decide) pt
  have hkC := w.1.2.2.2.2.1
  have p9 := w.1.2.2.2.2.2.1
  have I1 := ak_PI_put hu w (r := 26) (x := ((ak_st b n (z 0) : Nat) : Int))
  have e1 := ak_ext_put (p := p) (z := z) (hc := hc) (hm := hm) (r := 26) (x := ((ak_st b n (z 0) : Nat) : Int)) hu
  have pt1 : ak_POT b n o 1 (ak_zu z 1 (z 1 + 1)) := by
    unfold ak_POT at pt ⊢
    show 2 * (z 1 + 1) ≤ 3 * ak_st b n (z 0) + z 5 + 10 * o + 3 * 1 ∧ z 2 ≤ ak_st b n (z 0) + 2 * o + 1 ∧ 13 * z 3 ≤ ak_st b n (z 0) + 13 * o ∧ 6 * z 4 ≤ ak_st b n (z 0)
    omega
  refine ak_MV_of (Nat.le_of_ble_eq_true rfl) (am_k22_0 hu ?_)
  rw [p9]
  have cq : ∀ hc', ak_KQ e ρ (d + 20 * (20 - o) + 25) u p b n m lv D o Mt (ak_zu z 1 (z 1 + 1)) (ak_put hc u (z 1) 26 ((ak_st b n (z 0) : Nat) : Int)) hm hc' → ∃ (D' z' : Nat → Nat) (y : Nat) (hm' : ak_S), ak_YP u p b n m lv D o Mt z hc hm D' z' y hc' hm' ∧ ak_goI e (d + 20 * (20 - o) + 25) ρ 233 [am_r 110] hm ((9000 * p + y : Nat) : Int) hm' := by
    intro hc' R
    obtain ⟨D', z', y, hm', ⟨I, l, r, ee, dd, y1, y2, n119, n120, T⟩, go⟩ := R
    have r' : 2 * z' 1 + 2 + 3 * ak_st b n (z 0) + z 5 ≤ 2 * (z 1 + 1) + 3 * ak_st b n (z' 0) + z' 5 ∧ z' 2 + ak_st b n (z 0) ≤ z 2 + ak_st b n (z' 0) ∧ 13 * z' 3 + ak_st b n (z 0) ≤ 13 * z 3 + ak_st b n (z' 0) ∧ 6 * z' 4 + ak_st b n (z 0) ≤ 6 * z 4 + ak_st b n (z' 0) := r
    have le := ak_ext_le ee
    have le1 : z 1 + 1 ≤ z' 1 := le.2.1
    refine ⟨D', z', y, hm', ⟨I, l, ?_, ak_ext_trans e1 ee, dd, y1, y2, n119, fun C M ft => ⟨?_, ?_, ?_⟩⟩, go⟩
    · unfold ak_REL
      omega
    · exact (ft.1.1 (z 1) (Nat.le_refl _) (by omega)).1.trans (ak_od_ext ee (Nat.lt_succ_self _) ak_put_2)
    · have h1 := (ft.1.1 (z 1) (Nat.le_refl _) (by omega)).2.trans (ak_oa_ext ee (Nat.lt_succ_self _) ak_put_3)
      have h2 := (ft.1.2.2.2.2 120 (9000 * p + y) (by decide) (by decide) (by have : z 2 ≤ y := y1; omega) (by omega) (fun h => absurd h.1 (by decide))).trans n120
      exact h1.trans h2.symm
    · exact T C M (ak_fut_sub ft (show z 1 ≤ z 1 + 1 ∧ z 2 ≤ z 2 ∧ z 3 ≤ z 3 ∧ z 4 ≤ z 4 ∧ z 5 ≤ z 5 by omega))
  have cx : ∀ ex hc', ak_XXs e ρ (d + 20 * (20 - o) + 25) 233 u p (ak_put hc u (z 1) 26 ((ak_st b n (z 0) : Nat) : Int)) hm ex hc' → ak_XXs e ρ (d + 20 * (20 - o) + 25) 233 u p hc hm ex hc' := by
    intro ex hc' R
    obtain ⟨hx, x, hm', wr, go⟩ := R
    exact ⟨hx, x, hm', ak_WRs_ext w I1 (Nat.le_refl _) e1 wr, go⟩
  have cx2 : ∀ ex hc', ak_XX e ρ (d + 20 * (20 - o) + 25) 233 u p (ak_put hc u (z 1) 26 ((ak_st b n (z 0) : Nat) : Int)) hm ex hc' → ak_XXs e ρ (d + 20 * (20 - o) + 25) 233 u p hc hm ex hc' := by
    intro ex hc' R
    obtain ⟨hx, x, hm', wr, go⟩ := R
    exact cx ex hc' ⟨hx, x, hm', ak_WR_s wr, go⟩
  have ht1 : m ≤ ak_zu z 1 (z 1 + 1) 0 + t := ht
  have plain : (∀ k : Int, 201 ≤ k → k ≤ 217 → k ≠ 203 → k ≠ 210 → k ≠ 211 → ak_kd b n (ak_st b n (z 0)) ≠ k) → ak_MV e 0 (d + 20 * (20 - o) + 24) [ρ0, ak_T u, ak_T u + 1, ρ3, ρ4] 24 [am_r 2, am_i (o : Int)] (ak_put hc u (z 1) 26 ((ak_st b n (z 0) : Nat) : Int)) (fun hc' => ∃ (D' z' : Nat → Nat) (y : Nat) (hm' : ak_S), ak_YP u p b n m lv D o Mt z hc hm D' z' y hc' hm' ∧ ak_goI e (d + 20 * (20 - o) + 25) ρ 233 [am_r 110] hm ((9000 * p + y : Nat) : Int) hm') (ak_XXs e ρ (d + 20 * (20 - o) + 25) 233 u p hc hm) :=
    fun hk => ak_MV_imp (lk_plain hu hE I1 pt1 ht1 hk) cq cx
  refine am_s3 hu w.2.2.2.2.2.2.2.2.1 (show z 1 < 9600 by omega) ?_
  rw [hkC]
  refine ⟨trivial, fun q => plain (fun k h1 h2 h3 h4 h5 h6 => by omega), fun q => ?_, fun q => ?_, fun q => plain (fun k h1 h2 h3 h4 h5 h6 => by omega), fun q => ?_, fun q => ?_, fun q => ?_, fun q => ?_, fun q => ?_, fun q => ?_, fun q => plain (fun k h1 h2 h3 h4 h5 h6 => by omega), fun q => plain (fun k h1 h2 h3 h4 h5 h6 => by omega), fun q => ?_, fun q => ?_, fun q => ?_, fun q => ?_, fun q => ?_, fun q => ?_, trivial⟩
  · exact ak_MV_imp (lk_var hu hE I1 pt1 ht1 (show ak_kd b n (ak_st b n (z 0)) = 201 by omega)) cq cx
  · exact ak_MV_imp (lk_if hu hE hS I1 pt1 ht1 (show ak_kd b n (ak_st b n (z 0)) = 202 by omega)) cq cx
  · exact ak_MV_imp (lk_while hu hE hS I1 pt1 ht1 (show ak_kd b n (ak_st b n (z 0)) = 204 by omega) (show (z 1 : Int) + 1 = ((z 1 + 1 : Nat) : Int) by omega)) cq cx
  · have q' : ak_kd b n (ak_st b n (z 0)) = 205 := by omega
    rw [q']
    exact ak_MV_imp (lk_leave hu hE I1 pt1 ht1 q' (Or.inl ⟨rfl, rfl, rfl⟩)) cq cx2
  · have q' : ak_kd b n (ak_st b n (z 0)) = 206 := by omega
    rw [q']
    exact ak_MV_imp (lk_leave hu hE I1 pt1 ht1 q' (Or.inr (Or.inl ⟨rfl, rfl, rfl⟩))) cq cx2
  · have q' : ak_kd b n (ak_st b n (z 0)) = 207 := by omega
    rw [q']
    exact ak_MV_imp (lk_leave hu hE I1 pt1 ht1 q' (Or.inr (Or.inr ⟨rfl, rfl, rfl⟩))) cq cx2
  · exact ak_MV_imp (lk_fail hu hE I1 pt1 ht1 (show ak_kd b n (ak_st b n (z 0)) = 208 by omega)) cq cx
  · exact ak_MV_imp (lk_guard hu hS I1 pt1 ht1 (show ak_kd b n (ak_st b n (z 0)) = 209 by omega)) cq cx
  · exact ak_MV_imp (lk_set hu hE I1 pt1 ht1 (show ak_kd b n (ak_st b n (z 0)) = 212 by omega)) cq cx
  · have q' : ak_kd b n (ak_st b n (z 0)) = 213 := by omega
    rw [q']
    exact ak_MV_imp (lk_add hu hE I1 pt1 ht1 q') cq cx
  · have q' : ak_kd b n (ak_st b n (z 0)) = 214 := by omega
    rw [q']
    exact ak_MV_imp (lk_give hu hE I1 pt1 ht1 q') cq cx
  · have q' : ak_kd b n (ak_st b n (z 0)) = 215 := by omega
    rw [q']
    exact ak_MV_imp (lk_drop hu hE I1 pt1 ht1 q') cq cx
  · have q' : ak_kd b n (ak_st b n (z 0)) = 216 := by omega
    rw [q']
    exact ak_MV_imp (lk_link hu hE I1 pt1 ht1 q' (Or.inl ⟨rfl, rfl, rfl⟩)) cq cx2
  · have q' : ak_kd b n (ak_st b n (z 0)) = 217 := by omega
    rw [q']
    exact ak_MV_imp (lk_link hu hE I1 pt1 ht1 q' (Or.inr ⟨rfl, rfl, rfl⟩)) cq cx2
theorem lk_all {ρ0 ρ3 ρ4 : Nat} (hu : u = 0 ∨ u = 1) : ∀ t, ak_EX e u p b n m ρ0 ρ3 ρ4 ρ 34 222 13 13 t ∧ ak_SX e u p b n m ρ0 ρ3 ρ4 ρ t := by
  intro t
  induction t using Nat.strongRecOn with
  | _ t ih =>
    have hX : ∀ t', t' < t → ak_EX e u p b n m ρ0 ρ3 ρ4 ρ 34 222 13 13 t' := fun t' h => (ih t' h).1
    have hS : ∀ t', t' < t → ak_SX e u p b n m ρ0 ρ3 ρ4 ρ t' := fun t' h => (ih t' h).2
    have hE := lk_exp hu (lk_sum hu (lk_prod hu (lk_unary hu (lk_chain hu hX (lk_primary hu hX (lk_literal hu hS))))))
    exact ⟨hE, lk_stmts hu (lk_stmt hu hE hS)⟩
end LKALL
