/-! the run: an expression, a step -/
section EXPS
variable {e : ak_X3} {d ρ1 ρ2 P W : Nat} {ρ : List Nat} {c : ak_Cx} {g : ak_Gh} {fs : List ak_Fr} {f : ak_Fr} {hc hm : ak_S} {j : ak_Jb} {r : List ak_Jb}
/-- statements, with more room -/
theorem ak_T3_wi {C M : Nat → Nat → Int} {T p : Nat} {x : Int} {k lt i i' a cc : Nat} (hi : i ≤ i') (t : ak_T3 C M T p 2 x k lt i a cc) : ak_T3 C M T p 2 x k lt i' a cc := by
  refine ak_T3_fold ?_
  obtain ⟨h1, h2⟩ := ak_T3_open t
  refine ⟨by omega, ?_⟩
  rcases h2 with h | ⟨y, c1, j, j2, a1, a2, a3, ⟨a4, a5, a6⟩, a7⟩
  · exact Or.inl h
  · exact Or.inr ⟨y, c1, j, j2, a1, a2, a3, ⟨by omega, by omega, a6⟩, a7⟩
theorem ak_st_exp (w : ak_RN c g (f :: fs) hc hm) (fj : f.js = j :: r) (hk : j.k = 1) (K0 : ak_K0 (ak_mC c.s c.h0) (ak_mM c.us c.m0) (ak_T c.s) c.us (g.mt f.r + 40 * g.lv f.r) (ak_K (ak_mC c.s c.h0) (ak_mM c.us c.m0) (ak_T c.s) c.us (g.mt f.r + 40 * g.lv f.r) r) r j f.pc (f.vs.map (fun v => v.1))) (cnt : hm.1 110 109 < 1000000000) : ak_OUT e d ρ1 ρ2 ρ c (ak_Phi hm (f :: fs)) (ak_wtop (f :: fs)) hc hm := by
  have fU := (ak_tp w).2.2.1
  have lt1 := (ak_tp w).2.2.2.2.2.2.2.2.2.2.2.2.2.2.2.2
  have rm := w.1.2.2.2.2.1.2.1 _ fU
  have m40 : g.mt f.r < 40 := by
    have := rm.2.2.2.2.2.1.2.1
    have := (ak_tx_now w.1.1.2 w.1.2.1).1.2.2.2
    omega
  have dl : (g.mt f.r + 40 * g.lv f.r) / 40 = g.lv f.r := by omega
  have ml : (g.mt f.r + 40 * g.lv f.r) % 40 = g.mt f.r := by omega
  obtain ⟨cc, H, J, hw, hH, hJ, tt, K⟩ : ∃ cc H J : Nat, j.w = 2 * J ∧ (f.vs.map (fun v => v.1)).length + H ≤ 151 ∧ r.length + J ≤ 6165 ∧ ak_T3 (ak_mC c.s c.h0) (ak_mM c.us c.m0) (ak_T c.s) c.us 0 j.n H (g.mt f.r + 40 * g.lv f.r) J f.pc cc ∧ ak_K (ak_mC c.s c.h0) (ak_mM c.us c.m0) (ak_T c.s) c.us (g.mt f.r + 40 * g.lv f.r) r cc (true :: f.vs.map (fun v => v.1)) := by
    unfold ak_K0 at K0
    rw [hk] at K0
    exact K0
  rw [List.length_map] at hH
  obtain ⟨y, hy, ⟨hH1, hJ1⟩, o⟩ := ak_T3_open tt
  have len : f.vs.length + 1 ≤ 151 := by omega
  rcases o with ⟨h114, hc2, a1, a2, a3, a4⟩ | ⟨h114, hc2, a1⟩ | ⟨h114, hc2, a1⟩ | ⟨h114, hc2, a1⟩ | ⟨h114, hc2, a1⟩ | ⟨h114, c1, j1, ⟨a1, a2⟩, a3, hc2⟩ | ⟨h114, hc2, a1, a2, a3, a4, a5, a6⟩ | ⟨h114, c1, n, j1, H2, a1, a2, a3, ⟨a4, a5, a6⟩, a7, a8, a9, a10, hc2⟩ | ⟨h114, c0, c1, n, j1, j2, H2, ⟨a1, a2, a3⟩, a4, a5, a6, a7, a8, a9, a10, hc2⟩ | ⟨h114, c0, c1, n, j1, j2, H2, ⟨a1, a2, a3⟩, a4, a5, a6, a7, a8, hc2⟩ | ⟨h114, c0, c1, j1, j2, H2, ⟨a1, a2, a3⟩, a4, a5, hc2⟩ | ⟨h114, c1, j1, ⟨a1, a2⟩, a3, hc2⟩ | ⟨h114, c1, l, j1, G, a1, a2, a3, a4, a5, a6, a7, a8, ⟨a9, ⟨a10, a11⟩, a12⟩, a13, hc2, a14⟩
  · exact ak_lf_num w fj hk hy h114 a1 a2 ⟨a3, a4⟩ (by rw [hc2] at K; exact K) len
  · exact ak_lf_nil w fj hk hy h114 a1 (by rw [hc2] at K; exact K) len
  · exact ak_lf_self w fj hk hy h114 a1 (by rw [hc2] at K; exact K) len
  · exact ak_lf_lobby w fj hk hy h114 a1 (by rw [hc2] at K; exact K) len
  · exact ak_lf_new w fj hk hy h114 a1 cnt (by rw [hc2] at K; exact K) len
  · exact ak_ex_cl w fj hk hy hw h114 a1 a2 a3 hH hJ (by rw [hc2] at K; exact K)
  · rw [dl] at a4
    obtain ⟨hops, e1⟩ := Int.eq_ofNat_of_zero_le a3
    obtain ⟨slot, e2⟩ := Int.eq_ofNat_of_zero_le a5
    exact ak_lf_word (hops := hops) (slot := slot) w fj hk hy h114 a1 (by rw [a2, e1, e2]; omega) e1 e2 (by omega) (by omega) (by rw [hc2] at K; exact K) len
  · refine ak_ex_abv w fj hk hy hw h114 a4 a5 a1 a2 a3 a6 ?_ hH1 hH hJ
    refine ⟨f.vs.map (fun v => v.1), by rw [List.length_map]; omega, by rw [hc2] at K; exact K, Or.inr (Or.inr (Or.inr ⟨n, a3, a2, Or.inl ⟨h114, a7, a8, a9, a10, rfl⟩⟩))⟩
  · refine ak_ex_msg w fj hk hy hw (Or.inl h114) a1 a2 a3 a4 a5 a6 ?_ hH hJ
    refine ⟨f.vs.map (fun v => v.1), by rw [List.length_map]; omega, by rw [hc2] at K; exact K, Or.inr (Or.inr (Or.inr ⟨n, a5, a4, Or.inr (Or.inl ⟨h114, a7, a8, a9, a10, rfl⟩)⟩))⟩
  · refine ak_ex_msg w fj hk hy hw (Or.inr h114) a1 a2 a3 a4 a5 a6 ?_ hH hJ
    refine ⟨f.vs.map (fun v => v.1), by rw [List.length_map]; omega, by rw [hc2] at K; exact K, Or.inr (Or.inr (Or.inr ⟨n, a5, a4, Or.inr (Or.inr ⟨h114, a7, a8, rfl⟩)⟩))⟩
  · exact ak_ex_two w fj hk hy hw h114 a1 a2 a3 a4 a5 hH hJ (by rw [hc2] at K; exact K)
  · exact ak_ex_mi w fj hk hy hw h114 a1 a2 a3 hH hJ (by rw [hc2] at K; exact K)
  · rw [ml] at a14
    have mc : ∀ q k, q ≠ ak_T c.s + 2 → ak_mC c.s c.h0 q k = c.h0.1 q k := fun q k h => by
      unfold ak_mC
      rw [if_neg (fun z => h z.1)]
    have mm : ∀ q k, 120 < q → ak_mM c.us c.m0 q k = c.m0.1 q k := fun q k h => by
      unfold ak_mM
      rw [if_neg (fun z => by omega)]
    rw [mc _ _ (by omega)] at a7 a8 a14
    rw [mm _ _ (by omega)] at a8 a12
    have K2 : ak_K (ak_mC c.s c.h0) (ak_mM c.us c.m0) (ak_T c.s) c.us (g.mt f.r + 40 * g.lv f.r) r (f.pc + 1) (true :: f.vs.map (fun v => v.1)) := by
      refine ak_K_jump a5 a6 ?_ K
      have := ak_T3_le a12
      omega
    refine ak_lf_lit (l := l) w fj hk hy h114 a3 a4 a1 a2 ⟨f.pc + 2, c1, G, a7, a8, a14, a13, a9, by omega, ?_⟩ cnt K2 len
    have e40 : g.mt f.r + 40 * (g.lv f.r + 1) = g.mt f.r + 40 * g.lv f.r + 40 := by omega
    rw [e40]
    exact ak_T3_wi (by omega) a12
end EXPS
