/-! what a token's kind tells; a name read on both sides -/
section TOK
variable {b : Nat → Int} {n i : Nat}
theorem ak_kidx_ge {w : Int} : ∀ (l : List Int) (k : Int), 0 ≤ k → ak_kidx w l k = 2 ∨ 200 ≤ ak_kidx w l k
  | [], _, _ => Or.inl rfl
  | x :: r, k, hk => by
    unfold ak_kidx
    split
    · exact Or.inr (by omega)
    · exact ak_kidx_ge r (k + 1) (by omega)
theorem ak_sgs_rng : ∀ y ∈ ak_sgs, 33 ≤ y ∧ y ≤ 125 := by decide
theorem ak_kd_word (h : ak_kd b n i = 2) : i < n ∧ ak_lB (b i) = true ∧ ak_wd b n i (ak_nx b n i - i) ∧ ∀ v, ak_vl b n i v → v = ak_pk b i (ak_nx b n i - i) := by
  unfold ak_kd at h
  split at h
  · exact absurd h (by decide)
  · rename_i hi
    have hin : i < n := by omega
    split at h
    · rename_i hl
      have e4 : ak_nx b n i = ak_end ak_lB b n i := by unfold ak_nx; rw [if_neg (by omega), if_pos hl]
      have hnx := ak_nx_le (b := b) hin
      split at h
      · exact absurd h (by decide)
      · rename_i h8
        refine ⟨hin, hl, ⟨by omega, by rw [e4]; omega, by omega, fun k hk => ?_⟩, fun v hv => ?_⟩
        · rw [e4] at hk
          exact ak_lB_iff.mp (ak_run_in (P := ak_lB) (b := b) (n - i) i (i + k) (by omega) (by unfold ak_end at hk; omega))
        · rw [e4]
          exact (hv hin).1 hl (by omega)
    · split at h
      · split at h <;> exact absurd h (by decide)
      · split at h
        · exact absurd h (by decide)
        · split at h
          · rename_i hs
            have := ak_sgs_rng _ (List.elem_iff.mp hs)
            omega
          · exact absurd h (by decide)
theorem ak_kd_num (h : ak_kd b n i = 3) : i < n ∧ ak_dB (b i) = true ∧ ak_nx b n i - i ≤ 9 ∧ (0 ≤ ak_nu b i (ak_nx b n i - i) ∧ ak_nu b i (ak_nx b n i - i) < 1000000000) ∧ ∀ v, ak_vl b n i v → v = ak_nu b i (ak_nx b n i - i) := by
  unfold ak_kd at h
  split at h
  · exact absurd h (by decide)
  · rename_i hi
    have hin : i < n := by omega
    split at h
    · split at h
      · exact absurd h (by decide)
      · rcases ak_kidx_ge (w := ak_pk b i (ak_end ak_lB b n i - i)) ak_kws 0 (Int.le_refl 0) with q | q
        · rw [q] at h; exact absurd h (by decide)
        · omega
    · rename_i hl
      split at h
      · rename_i hd
        have e4 : ak_nx b n i = ak_end ak_dB b n i := by unfold ak_nx; rw [if_neg (by omega), if_neg hl, if_pos hd]
        split at h
        · exact absurd h (by decide)
        · rename_i h9
          have hnx := ak_nx_le (b := b) hin
          have hr := ak_nu_in (b := b) (i := i) (ak_nx b n i - i) (fun k hk => by
            rw [e4] at hk
            exact ak_dB_iff.mp (ak_run_in (P := ak_dB) (b := b) (n - i) i (i + k) (by omega) (by unfold ak_end at hk; omega)))
          have hr2 := ak_pow10_le hr.2 (show ak_nx b n i - i ≤ 9 by rw [e4]; omega)
          rw [show (10 : Int) ^ 9 = 1000000000 by decide] at hr2
          refine ⟨hin, hd, by rw [e4]; omega, ⟨hr.1, hr2⟩, fun v hv => ?_⟩
          rw [e4]
          exact (hv hin).2 hd (by omega)
      · split at h
        · exact absurd h (by decide)
        · split at h
          · rename_i hs
            have := ak_sgs_rng _ (List.elem_iff.mp hs)
            omega
          · exact absurd h (by decide)
end TOK
section LKN
variable {e : ak_X3} {d : Nat} {b : Nat → Int} {n m p u a N : Nat} {hc hm : ak_S}
/-- frames: what stays of the one, of the other, while a text is read: told by what may change -/
theorem ak_nms_fr {hc' hm' : ak_S} (w : ak_nms b n u p hc hm N) (c1 : hc'.1 (ak_T u) 6 = hc.1 (ak_T u) 6) (c2 : ∀ k, hc'.2.1 (ak_T u + 14) k = hc.2.1 (ak_T u + 14) k) (m1 : hm'.1 131 p = hm.1 131 p) (m2 : ∀ k, hm'.1 132 k = hm.1 132 k) (m3 : ∀ k, hm'.1 133 k = hm.1 133 k) : ak_nms b n u p hc' hm' N := by
  obtain ⟨w1, w2, w3, w4, w5, w6⟩ := w
  refine ⟨w1, w2, by rw [c1]; exact w3, by rw [m1]; exact w4, by rw [c2]; exact w5, fun x h1 h2 => ?_⟩
  obtain ⟨i, z, g1, g2, g3, g4⟩ := w6 x h1 h2
  exact ⟨i, z, g1, by rw [m2]; exact g2, by rw [m3]; exact g3, by rw [c2]; exact g4⟩
theorem ak_nms_new {i z : Nat} (hu : u = 0 ∨ u = 1) (w : ak_nms b n u p hc hm N) (hN : N < 100) (wd : ak_wd b n i z) : ak_nms b n u p (ak_nmC hc u N (ak_pk b i z)) (ak_nmM hm p N (i : Int) (z : Int)) (N + 1) := by
  obtain ⟨w1, w2, w3, w4, w5, w6⟩ := w
  have hT : ak_T u = 9 ∨ ak_T u = 87 := by rcases hu with rfl | rfl <;> decide
  refine ⟨by omega, by omega, by simp [ak_nmC, am_up], by simp [ak_nmM, am_up], ?_, fun x h1 h2 => ?_⟩
  · rw [← w5]
    have h0 : (0 : Nat) ≠ N := by omega
    simp [ak_nmC, am_up, h0]
  · by_cases hx : x = N
    · subst hx
      exact ⟨i, z, wd, by simp [ak_nmM, am_up], by simp [ak_nmM, am_up], by simp [ak_nmC, am_up]⟩
    · obtain ⟨i', z', g1, g2, g3, g4⟩ := w6 x h1 (by omega)
      refine ⟨i', z', g1, ?_, ?_, ?_⟩
      · rw [← g2]; simp [ak_nmM, am_up, hx]
      · rw [← g3]; simp [ak_nmM, am_up, hx]
      · rw [← g4]; simp [ak_nmC, am_up, hx]
end LKN
