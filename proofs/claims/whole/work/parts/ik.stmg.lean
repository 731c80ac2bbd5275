/-! the run: a statement, all of it -/
section STMG
variable {e : ak_X3} {d ρ1 ρ2 W n : Nat} {ρ : List Nat} {c : ak_Cx} {g : ak_Gh} {fs : List ak_Fr} {f : ak_Fr} {hc hm : ak_S} {j : ak_Jb} {r : List ak_Jb} {X : Nat → ak_S → Prop}
theorem ak_st_stm (w : ak_RN c g (f :: fs) hc hm) (fj : f.js = j :: r) (hk : j.k = 2) (K0 : ak_K0 (ak_mC c.s c.h0) (ak_mM c.us c.m0) (ak_T c.s) c.us (g.mt f.r + 40 * g.lv f.r) (ak_K (ak_mC c.s c.h0) (ak_mM c.us c.m0) (ak_T c.s) c.us (g.mt f.r + 40 * g.lv f.r) r) r j f.pc (f.vs.map (fun v => v.1))) (cnt : hm.1 110 109 < 1000000000) : ak_OUT e d ρ1 ρ2 ρ c (ak_Phi hm (f :: fs)) (ak_wtop (f :: fs)) hc hm := by
  unfold ak_K0 at K0
  rw [hk] at K0
  obtain ⟨es, c9, i9, G, hi9, hG, t2, K⟩ := K0
  have fv : f.vs = [] := List.map_eq_nil_iff.mp es
  obtain ⟨i1p, D⟩ := ak_T3_open t2
  rcases D with ⟨hx, ea⟩ | ⟨y, c1, j1, j2, hy, h2, h3, ⟨hj1, hj2, t4⟩, t5⟩
  · subst ea
    exact ak_st_none w fj hk hx (by rw [fv]; exact K)
  have KT : ak_K (ak_mC c.s c.h0) (ak_mM c.us c.m0) (ak_T c.s) c.us (g.mt f.r + 40 * g.lv f.r) (⟨2, ak_mM c.us c.m0 119 y, 0, 0, 0⟩ :: r) c1 [] := ak_K_mk (j := ⟨2, ak_mM c.us c.m0 119 y, 0, 0, 0⟩) ⟨rfl, c9, j2, G, by omega, hG, t5, K⟩
  obtain ⟨y', hy', D⟩ := ak_T3_open t4
  have ey : y' = y := by omega
  subst ey
  have sp0 := w.1
  have lt1 := (ak_tp w).2.2.2.2.2.2.2.2.2.2.2.2.2.2.2.2
  have hlt : (g.mt f.r + 40 * g.lv f.r + 1000 * G) % 1000 = g.mt f.r + 40 * g.lv f.r := by omega
  have h77 : 20 ≤ ak_mM c.us c.m0 114 y' ∧ ak_mM c.us c.m0 114 y' ≤ 35 := by
    rcases D with h | h | h | h | h | h | h | ⟨h | h, _⟩ | h | h | h | h | h | h | h
    all_goals first | (rw [h.1]; decide) | (rw [h]; decide)
  obtain ⟨y18, yq⟩ := ak_nde (q0 := 114) (y := y') sp0 (by omega) (by omega)
  have jb := sp0.2.2.2.2.2.1.2.1.1
  obtain ⟨N, h104⟩ := Int.eq_ofNat_of_zero_le jb.1
  by_cases hN : N = 4000
  · subst hN
    exact ak_st_spent w fj hk hy y18 h2 h104
  have hN : N < 4000 := by omega
  unfold ak_RX ak_RX2 at D
  rw [hlt] at D
  clear h77 jb yq t4 t5 t2 sp0
  rcases D with ⟨h114, cx, ⟨J1, H, hH, hJ1, tt⟩, q1, q2, q3, q4, ec⟩ | ⟨h114, cx, ⟨J1, H, hH, hJ1, tt⟩, q1, q2, q3, q4, q5, q6, ec⟩ | ⟨h114, cx, ⟨J1, H, hH, hJ1, tt⟩, q1, ec⟩ | ⟨h114, c0, cx, ⟨J1, J2, H, H2, hH, hH2, hJ1, tt, tt2⟩, q1, q2, q3, q4, ec⟩ | ⟨h114, c0, cx, ⟨J1, J2, H, H2, hH, hH2, hJ1, tt, tt2⟩, q1, q2, q3, q4, ec⟩ | ⟨h114, cx, ⟨J1, H, hH, hJ1, tt⟩, q1, q2, q3, q4, q5, q6, ec⟩ | ⟨h114, cx, ⟨J1, H, hH, hJ1, tt⟩, q1, q2, q3, q4, ec⟩ | ⟨h114, c0, cx, ⟨J1, J2, H, H2, hH, hH2, hJ1, tt, tt2⟩, q1, ec⟩ | ⟨h114, cx, c2, jj, jj2, ⟨J1, H, hH, hJ1, tt⟩, q1, ⟨q2, q3, q4⟩, q5⟩ | ⟨h114, cx, c2, jj, ⟨J1, H, hH, hJ1, tt⟩, q1, q2, ⟨q3, q4⟩, q5, q6, ec⟩ | ⟨h114, cx, ⟨J1, H, hH, hJ1, tt⟩, q1, ec⟩ | ⟨h114, cx, ⟨J1, H, hH, hJ1, tt⟩, q1, ec⟩ | ⟨h114, cx, ⟨J1, H, hH, hJ1, tt⟩, q1, ec⟩ | ⟨h114, q1, q2, D⟩ | ⟨h114, cx, c2, gd, i0, jj, q1, q2, q3, ⟨q4, q5, q6⟩, q7, q8, q9, q10, q11, q12⟩
  · subst ec
    exact ak_st_one (kk := 4) w fj hk hy fv h2 h3 h104 hN (Or.inl ⟨rfl, Or.inl h114⟩) hH (by omega) tt (ak_K_mk (j := ⟨4, (y' : Int), 0, 0, 0⟩) ⟨y', rfl, Or.inl ⟨h114, rfl, q1, q2, q3, q4, KT⟩⟩)
  · subst ec
    exact ak_st_one (kk := 4) w fj hk hy fv h2 h3 h104 hN (Or.inl ⟨rfl, Or.inr (Or.inl h114)⟩) hH (by omega) tt (ak_K_mk (j := ⟨4, (y' : Int), 0, 0, 0⟩) ⟨y', rfl, Or.inr (Or.inl ⟨h114, rfl, q1, q2, q3, q4, q5, q6, KT⟩)⟩)
  · subst ec
    exact ak_st_one (kk := 5) w fj hk hy fv h2 h3 h104 hN (Or.inr (Or.inl ⟨rfl, h114⟩)) hH (by omega) tt (ak_K_mk (j := ⟨5, (y' : Int), 0, 0, 0⟩) ⟨rfl, q1, KT⟩)
  · subst ec
    have J2p := (ak_K_len tt2).2
    exact ak_st_two (J2 := J2) w fj hk hy fv h2 h3 h104 hN (Or.inl h114) hH (by omega) tt (ak_K_mk (j := ⟨1, ak_mM c.us c.m0 116 y', 0, 0, 2 * J2⟩) ⟨cx, H2, J2, rfl, by show 1 + H2 ≤ 151; omega, by rw [List.length_cons, List.length_cons]; omega, tt2, ak_K_mk (j := ⟨4, (y' : Int), 0, 0, 0⟩) ⟨y', rfl, Or.inr (Or.inr (Or.inl ⟨h114, rfl, q1, q2, q3, q4, KT⟩))⟩⟩)
  · subst ec
    have J2p := (ak_K_len tt2).2
    exact ak_st_two (J2 := J2) w fj hk hy fv h2 h3 h104 hN (Or.inr (Or.inl h114)) hH (by omega) tt (ak_K_mk (j := ⟨1, ak_mM c.us c.m0 116 y', 0, 0, 2 * J2⟩) ⟨cx, H2, J2, rfl, by show 1 + H2 ≤ 151; omega, by rw [List.length_cons, List.length_cons]; omega, tt2, ak_K_mk (j := ⟨4, (y' : Int), 0, 0, 0⟩) ⟨y', rfl, Or.inr (Or.inr (Or.inr (Or.inl ⟨h114, rfl, q1, q2, q3, q4, KT⟩)))⟩⟩)
  · subst ec
    exact ak_st_one (kk := 4) w fj hk hy fv h2 h3 h104 hN (Or.inl ⟨rfl, Or.inr (Or.inr (Or.inl h114))⟩) hH (by omega) tt (ak_K_mk (j := ⟨4, (y' : Int), 0, 0, 0⟩) ⟨y', rfl, Or.inr (Or.inr (Or.inr (Or.inr (Or.inl ⟨h114, rfl, q1, q2, q3, q4, q5, q6, KT⟩))))⟩)
  · subst ec
    exact ak_st_one (kk := 4) w fj hk hy fv h2 h3 h104 hN (Or.inl ⟨rfl, Or.inr (Or.inr (Or.inr (Or.inl h114)))⟩) hH (by omega) tt (ak_K_mk (j := ⟨4, (y' : Int), 0, 0, 0⟩) ⟨y', rfl, Or.inr (Or.inr (Or.inr (Or.inr (Or.inr (Or.inl ⟨h114, rfl, q1, q2, q3, q4, KT⟩)))))⟩)
  · subst ec
    have J2p := (ak_K_len tt2).2
    exact ak_st_two (J2 := J2) w fj hk hy fv h2 h3 h104 hN (h114.elim (fun h => Or.inr (Or.inr (Or.inl h))) (fun h => Or.inr (Or.inr (Or.inr h)))) hH (by omega) tt (ak_K_mk (j := ⟨1, ak_mM c.us c.m0 116 y', 0, 0, 2 * J2⟩) ⟨cx, H2, J2, rfl, by show 1 + H2 ≤ 151; omega, by rw [List.length_cons, List.length_cons]; omega, tt2, ak_K_mk (j := ⟨4, (y' : Int), 0, 0, 0⟩) ⟨y', rfl, Or.inr (Or.inr (Or.inr (Or.inr (Or.inr (Or.inr (Or.inl ⟨h114, rfl, q1, KT⟩))))))⟩⟩)
  · have KD : ak_DN (ak_mC c.s c.h0) (ak_mM c.us c.m0) (ak_T c.s) c.us (g.mt f.r + 40 * g.lv f.r) (ak_K (ak_mC c.s c.h0) (ak_mM c.us c.m0) (ak_T c.s) c.us (g.mt f.r + 40 * g.lv f.r) (⟨2, ak_mM c.us c.m0 119 y', 0, 0, 0⟩ :: r)) (⟨2, ak_mM c.us c.m0 119 y', 0, 0, 0⟩ :: r) y' cx [true] := by
      rcases q5 with ⟨e1, e2, e3⟩ | ⟨e1, e2, e3, e4⟩
      · subst e3
        exact Or.inr (Or.inr (Or.inr (Or.inr (Or.inr (Or.inr (Or.inr (Or.inl ⟨h114, rfl, q1, c1, jj, G, by rw [List.length_cons]; omega, hG, q4, KT, Or.inl ⟨e1, e2⟩⟩)))))))
      · have le := ak_T3_le e4
        exact Or.inr (Or.inr (Or.inr (Or.inr (Or.inr (Or.inr (Or.inr (Or.inl ⟨h114, rfl, q1, c2, jj, G, by rw [List.length_cons]; omega, hG, q4, ak_K_jump e2 e3 (by omega) KT, Or.inr ⟨c1, jj2, e1, by rw [List.length_cons]; omega, e4, KT⟩⟩)))))))
    exact ak_st_one (kk := 4) w fj hk hy fv h2 h3 h104 hN (Or.inl ⟨rfl, Or.inr (Or.inr (Or.inr (Or.inr (Or.inl h114))))⟩) hH (by omega) tt (ak_K_mk (j := ⟨4, (y' : Int), 0, 0, 0⟩) ⟨y', rfl, KD⟩)
  · subst ec
    exact ak_st_one (kk := 6) w fj hk hy fv h2 h3 h104 hN (Or.inr (Or.inr ⟨rfl, h114⟩)) hH (by omega) tt (ak_K_mk (j := ⟨6, (y' : Int), 0, 0, 0⟩) ⟨rfl, y', f.pc, c2, rfl, h114, h2, h3, ⟨J1, H, hH, by rw [List.length_cons]; omega, tt⟩, q1, q2, ⟨G, jj, by rw [List.length_cons]; omega, hG, q4⟩, q5, by omega, KT⟩)
  · subst ec
    exact ak_st_one (kk := 4) w fj hk hy fv h2 h3 h104 hN (Or.inl ⟨rfl, Or.inr (Or.inr (Or.inr (Or.inr (Or.inr (Or.inl h114)))))⟩) hH (by omega) tt (ak_K_mk (j := ⟨4, (y' : Int), 0, 0, 0⟩) ⟨y', rfl, Or.inr (Or.inr (Or.inr (Or.inr (Or.inr (Or.inr (Or.inr (Or.inr (Or.inl ⟨h114, rfl, q1, KT⟩))))))))⟩)
  · subst ec
    exact ak_st_one (kk := 4) w fj hk hy fv h2 h3 h104 hN (Or.inl ⟨rfl, Or.inr (Or.inr (Or.inr (Or.inr (Or.inr (Or.inr (Or.inl h114))))))⟩) hH (by omega) tt (ak_K_mk (j := ⟨4, (y' : Int), 0, 0, 0⟩) ⟨y', rfl, Or.inr (Or.inr (Or.inr (Or.inr (Or.inr (Or.inr (Or.inr (Or.inr (Or.inr (Or.inl ⟨h114, rfl, q1, KT⟩)))))))))⟩)
  · subst ec
    exact ak_st_one (kk := 4) w fj hk hy fv h2 h3 h104 hN (Or.inl ⟨rfl, Or.inr (Or.inr (Or.inr (Or.inr (Or.inr (Or.inr (Or.inr (Or.inl h114)))))))⟩) hH (by omega) tt (ak_K_mk (j := ⟨4, (y' : Int), 0, 0, 0⟩) ⟨y', rfl, Or.inr (Or.inr (Or.inr (Or.inr (Or.inr (Or.inr (Or.inr (Or.inr (Or.inr (Or.inr (Or.inl ⟨h114, rfl, q1, KT⟩))))))))))⟩)
  · rcases D with ⟨e1, e2, e3, e4, ec⟩ | ⟨cx, ⟨J1, H, hH, hJ1, tt⟩, e2, e3, ec⟩
    · exact ak_st_f34 w fj hk hy fv h114 (by omega) h2 h3 h104 hN e2 e3 e4 cnt (by omega) ⟨_, _, KT⟩
    · subst ec
      exact ak_st_one (kk := 4) w fj hk hy fv h2 h3 h104 hN (Or.inl ⟨rfl, Or.inr (Or.inr (Or.inr (Or.inr (Or.inr (Or.inr (Or.inr (Or.inr h114)))))))⟩) hH (by omega) tt (ak_K_mk (j := ⟨4, (y' : Int), 0, 0, 0⟩) ⟨y', rfl, Or.inr (Or.inr (Or.inr (Or.inr (Or.inr (Or.inr (Or.inr (Or.inr (Or.inr (Or.inr (Or.inr (⟨h114, rfl, e2, e3, q1, q2, KT⟩)))))))))))⟩)
  · have e1 : g.mt f.r + 40 * g.lv f.r + 1000 * G - 1000 = g.mt f.r + 40 * g.lv f.r + 1000 * (G - 1) := by omega
    have Gp : 1 ≤ G := by omega
    rw [e1] at q6 q10 q12
    have ES : ak_ES (ak_mC c.s c.h0) (ak_mM c.us c.m0) (ak_T c.s) c.us (g.mt f.r + 40 * g.lv f.r) (ak_K (ak_mC c.s c.h0) (ak_mM c.us c.m0) (ak_T c.s) c.us (g.mt f.r + 40 * g.lv f.r) (⟨2, ak_mM c.us c.m0 119 y', 0, 0, 0⟩ :: r)) (⟨2, ak_mM c.us c.m0 119 y', 0, 0, 0⟩ :: r) y' gd := by
      rcases q12 with ⟨z1, z2, z3⟩ | ⟨z1, z2, c3, z3, z4, z5, z6⟩
      · exact Or.inl ⟨c1, z1, z2, q11, KT⟩
      · subst z6
        exact Or.inr ⟨z1, c2, c3, G - 1, jj, z2, by show ak_gc r + 0 + 1 + (G - 1) ≤ 21; omega, by rw [List.length_cons]; omega, z3, z4, KT⟩
    have jjp := (ak_T3_open q6).1
    exact ak_st_grd (gd := gd) w fj hk hy fv h114 h2 h3 h104 hN q1 q2 (by omega) (by omega) (ak_K_mk (j := ⟨2, ak_mM c.us c.m0 115 y', 0, 0, 0⟩) ⟨rfl, cx, jj, G - 1, by rw [List.length_cons, List.length_cons]; omega, by show ak_gc r + 0 + 1 + (G - 1) ≤ 21; omega, q6, ak_K_mk (j := ⟨9, (y' : Int), 0, (ak_nT fs : Int), gd⟩) ⟨rfl, y', rfl, h114, q3, q7, q8, ⟨i0, c2, G - 1, jj, q9, by show ak_gc r + 0 + 1 + (G - 1) ≤ 21; omega, by rw [List.length_cons]; omega, q10⟩, ES⟩⟩)
end STMG
