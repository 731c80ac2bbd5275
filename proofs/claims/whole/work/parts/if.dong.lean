/-! the run: a statement's end, all of it -/
section DONG
variable {e : ak_X3} {d ρ1 ρ2 W y n : Nat} {ρ : List Nat} {c : ak_Cx} {g : ak_Gh} {fs : List ak_Fr} {f : ak_Fr} {hc hm : ak_S} {j : ak_Jb} {r : List ak_Jb} {X : Nat → ak_S → Prop}
theorem ak_vs1 {vs : List (Bool × Int × Int)} (h : vs.map (fun v => v.1) = [true]) : ∃ v : Bool × Int × Int, vs = [v] ∧ v.1 = true := by
  obtain ⟨u, v, l, a1, a2, a3, a4, a5⟩ := ak_vsplit (n := 0) (sh' := []) h
  cases u with
  | nil =>
    cases l with
    | nil => exact ⟨v, a1, a4⟩
    | cons z l => exact absurd a5 (by simp)
  | cons z u => exact absurd a2 (by simp)
theorem ak_vs2 {vs : List (Bool × Int × Int)} (h : vs.map (fun v => v.1) = [true, true]) : ∃ v v2 : Bool × Int × Int, vs = [v, v2] ∧ v.1 = true ∧ v2.1 = true := by
  obtain ⟨u, v, l, a1, a2, a3, a4, a5⟩ := ak_vsplit (n := 0) (sh' := [true]) h
  cases u with
  | nil =>
    obtain ⟨v2, b1, b2⟩ := ak_vs1 a5
    exact ⟨v, v2, by rw [a1, b1]; rfl, a4, b2⟩
  | cons z u => exact absurd a2 (by simp)
theorem ak_st_dn (w : ak_RN c g (f :: fs) hc hm) (fj : f.js = j :: r) (hk : j.k = 4) (K0 : ak_K0 (ak_mC c.s c.h0) (ak_mM c.us c.m0) (ak_T c.s) c.us (g.mt f.r + 40 * g.lv f.r) (ak_K (ak_mC c.s c.h0) (ak_mM c.us c.m0) (ak_T c.s) c.us (g.mt f.r + 40 * g.lv f.r) r) r j f.pc (f.vs.map (fun v => v.1))) (cnt : hm.1 110 109 < 1000000000) (cnt3 : hm.1 110 110 < 1000000000) : ak_OUT e d ρ1 ρ2 ρ c (ak_Phi hm (f :: fs)) W hc hm := by
  unfold ak_K0 at K0
  rw [hk] at K0
  obtain ⟨y, hy, D⟩ := K0
  have fU := (ak_tp w).2.2.1
  have hMt : c.Mt ≤ 40 := (ak_tx_z w.1.1.2).2.2.2.2.2.2.2
  have z7 : ak_mM c.us c.m0 127 c.us = (c.z 7 : Int) := (ak_tx_z w.1.1.2).2.2.2.2.1
  have hmt := (w.1.2.2.2.2.1.2.1 _ fU).2.2.2.2.2.1.2.1
  have l40 : (g.mt f.r + 40 * g.lv f.r) / 40 = g.lv f.r := by omega
  have l4m : (g.mt f.r + 40 * g.lv f.r) % 40 = g.mt f.r := by omega
  rcases D with ⟨h114, es, h2, h3, b0, b1, K⟩ | ⟨h114, es, h2, h3, b0, b1, b2, b3, K⟩ | ⟨h114, es, h2, h3, b0, b1, K⟩ | ⟨h114, es, h2, h3, b0, b1, K⟩ | ⟨h114, es, h2, h3, b0, b1, b2, b3, K⟩ | ⟨h114, es, h2, h3, b0, b1, K⟩ | ⟨h114, es, h2, K⟩ | ⟨h114, es, h2, c2, j1, G, jl, gl, t, K, D⟩ | ⟨h114, es, h2, K⟩ | ⟨h114, es, h2, K⟩ | ⟨h114, es, h2, K⟩ | ⟨h114, es, h2, h3, b0, b1, K⟩
  · obtain ⟨v, fv, v1⟩ := ak_vs1 es
    obtain ⟨slot, es'⟩ := Int.eq_ofNat_of_zero_le b0
    exact ak_dn_20 (slot := slot) w fj hk hy fv v1 h114 h2 (h3.trans es') es' (by omega) K
  · obtain ⟨v, fv, v1⟩ := ak_vs1 es
    obtain ⟨hops, eh⟩ := Int.eq_ofNat_of_zero_le b0
    obtain ⟨slot, es'⟩ := Int.eq_ofNat_of_zero_le b2
    rw [l40] at b1
    exact ak_dn_21 (slot := slot) (hops := hops) w fj hk hy fv v1 h114 h2 (by rw [h3, eh, es']) eh es' (by omega) (by omega) K
  · obtain ⟨v, v2, fv, v1, v21⟩ := ak_vs2 es
    obtain ⟨i, ei⟩ := Int.eq_ofNat_of_zero_le b0
    exact ak_dn_23 (i := i) w fj hk hy fv v1 v21 h114 h2 (h3.trans ei) ei (by omega) cnt K
  · obtain ⟨v, v2, fv, v1, v21⟩ := ak_vs2 es
    exact ak_dn_24 w fj hk hy fv v1 v21 h114 h2 h3 rfl cnt K
  · obtain ⟨v, fv, v1⟩ := ak_vs1 es
    obtain ⟨n, en⟩ := Int.eq_ofNat_of_zero_le b0
    obtain ⟨m, em⟩ := Int.eq_ofNat_of_zero_le b2
    rw [l4m] at b3
    exact ak_dn_25 (m := m) (n := n) w fj hk hy fv v1 h114 h2 (by rw [h3, em, en]) en em (by omega) (by omega) (by omega) cnt K
  · obtain ⟨v, fv, v1⟩ := ak_vs1 es
    exact ak_dn_26 w fj hk hy fv v1 h114 h2 h3 rfl cnt K
  · obtain ⟨v, v2, fv, v1, v21⟩ := ak_vs2 es
    rcases h114 with h114 | h114
    · exact ak_dn_27 w fj hk hy fv v1 v21 h114 (by rw [h2, h114]; rfl) cnt K
    · exact ak_dn_28 w fj hk hy fv v1 v21 h114 (by rw [h2, h114]; rfl) cnt K
  · obtain ⟨v, fv, v1⟩ := ak_vs1 es
    exact ak_dn_29 w fj hk hy fv v1 h114 h2 jl gl t K D
  · obtain ⟨v, fv, v1⟩ := ak_vs1 es
    rw [l40] at h2
    exact ak_dn_31 w fj hk hy fv v1 h114 (by rw [h2]; split <;> rfl) cnt
  · obtain ⟨v, fv, v1⟩ := ak_vs1 es
    exact ak_dn_32 w fj hk hy fv v1 h114 h2
  · obtain ⟨v, fv, v1⟩ := ak_vs1 es
    exact ak_dn_33 w fj hk hy fv v1 h114 h2 cnt3 K
  · obtain ⟨v, fv, v1⟩ := ak_vs1 es
    exact ak_dn_34 w fj hk hy fv v1 h114 h2 h3 cnt
end DONG
