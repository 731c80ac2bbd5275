/-! the run: every step, all steps -/
section STEP
variable {e : ak_X3} {d ρ1 ρ2 : Nat} {ρ : List Nat} {c : ak_Cx} {g : ak_Gh} {fs : List ak_Fr} {hc hm : ak_S} {X : Nat → ak_S → Prop}
theorem ak_STEP (w : ak_RN c g fs hc hm) (ne : fs ≠ []) (cnt : ∀ q, 109 ≤ q → q ≤ 111 → hm.1 110 q < 1000000000) : ak_OUT e d ρ1 ρ2 ρ c (ak_Phi hm fs) (ak_wtop fs) hc hm := by
  cases fs with
  | nil => exact absurd rfl ne
  | cons f fs =>
    have c9 := cnt 109 (by decide) (by decide)
    have c10 := cnt 110 (by decide) (by decide)
    have c11 := cnt 111 (by decide) (by decide)
    have K := (ak_tp w).2.2.2.2.2.2.2.2.2.2.1
    cases fj : f.js with
    | nil =>
      rw [fj] at K
      obtain ⟨n, cc, jp, es, h34⟩ := K
      cases n with
      | zero =>
        have jp : f.pc = cc := jp
        subst jp
        exact ak_st_end w fj (List.map_eq_nil_iff.mp es) h34
      | succ n =>
        obtain ⟨h30, b, h3, hb, jp⟩ := jp
        exact ak_st_jump (sh := []) w h30 h3 hb (by rw [fj]; exact ⟨n, cc, jp, es, h34⟩)
    | cons j r =>
      rw [fj] at K
      have hk := ak_K_kind K
      obtain ⟨n, a, jp, K0⟩ := K
      cases n with
      | succ n =>
        obtain ⟨h30, b, h3, hb, jp⟩ := jp
        exact ak_st_jump (sh := []) w h30 h3 hb (by rw [fj]; exact ⟨n, a, jp, K0⟩)
      | zero =>
        have jp : f.pc = a := jp
        subst jp
        rcases (show j.k = 1 ∨ j.k = 2 ∨ j.k = 3 ∨ j.k = 4 ∨ j.k = 5 ∨ j.k = 6 ∨ j.k = 7 ∨ j.k = 9 ∨ j.k = 10 ∨ j.k = 11 by omega) with k | k | k | k | k | k | k | k | k | k
        · exact ak_st_exp w fj k K0 c9
        · exact ak_st_stm w fj k K0 c9
        · exact ak_st_aft w fj k K0 c9 c11
        · exact ak_st_dn w fj k K0 c9 c10
        · unfold ak_K0 at K0
          rw [k] at K0
          obtain ⟨es, h2, K⟩ := K0
          obtain ⟨v, fv, v1⟩ := ak_vs1 es
          exact ak_st_forget w fj k h2 fv v1 K
        · unfold ak_K0 at K0
          rw [k] at K0
          obtain ⟨es, y, a0, c2, hy, LP⟩ := K0
          obtain ⟨v, fv, v1⟩ := ak_vs1 es
          have LP' := LP
          obtain ⟨p1, p2, p3, _, p5, p6, ⟨G, jj, p7, p8, p9⟩, p10, p11, p12⟩ := LP'
          have le := ak_T3_le p9
          have jjp := (ak_T3_open p9).1
          by_cases nt : ak_tr v.2.1 v.2.2 = true
          · exact ak_lp_yes (y := y) w fj k hy (by rw [p1]; decide) p5 nt fv v1 (ak_K_mk (j := ⟨2, ak_mM c.us c.m0 116 y, 0, 0, 0⟩) ⟨rfl, c2, jj, G, by rw [List.length_cons]; omega, by show ak_gc r + 0 + G ≤ 21; omega, p9, ak_K_mk (j := ⟨7, (y : Int), 0, 0, 0⟩) ⟨rfl, y, a0, f.pc, rfl, LP⟩⟩) (by omega)
          · exact ak_lp_no (b := c2 + 1) w fj k p5 p6 (by omega) nt fv v1 p12
        · unfold ak_K0 at K0
          rw [k] at K0
          obtain ⟨es, y, a0, c1, hy, LP⟩ := K0
          have LP' := LP
          obtain ⟨p1, p2, p3, ⟨J1, H, p4, p4', p4t⟩, p5, p6, _, p10, p11, p12⟩ := LP'
          exact ak_st_again (y := y) (a0 := a0) w fj k hy (List.map_eq_nil_iff.mp es) p1 p10 p11 p2 p3 p4 p4' p4t (ak_K_mk (j := ⟨6, (y : Int), 0, 0, 0⟩) ⟨rfl, y, a0, f.pc, rfl, LP⟩)
        · unfold ak_K0 at K0
          rw [k] at K0
          obtain ⟨es, y, hy, p1, p2, p3, p4, _, p5⟩ := K0
          exact ak_st_leave (y := y) w fj (Or.inl k) hy (List.map_eq_nil_iff.mp es) p1 p2 p3 p4 p5
        · unfold ak_K0 at K0
          rw [k] at K0
          obtain ⟨es, y, hy, p1, p2, p3, p4, p5⟩ := K0
          exact ak_st_leave (y := y) w fj (Or.inr k) hy (List.map_eq_nil_iff.mp es) p1 p2 p3 p4 p5
        · unfold ak_K0 at K0
          rw [k] at K0
          obtain ⟨es, p1, p2⟩ := K0
          exact ak_st_ens w fj k (List.map_eq_nil_iff.mp es) p1 p2
theorem ak_runs : ∀ (P W : Nat) (g : ak_Gh) (fs : List ak_Fr) (hc hm : ak_S), ak_RN c g fs hc hm → fs ≠ [] → ak_Phi hm fs ≤ P → ak_wtop fs ≤ W → (∀ q, 109 ≤ q → q ≤ 111 → hm.1 110 q + (P : Int) ≤ 100000000) → ∃ (n : Nat) (hcE hmE : ak_S) (o : Int), ak_FN e d ρ1 ρ2 ρ c o hcE hmE ∧ n ≤ P ∧ ak_turns e (d + 40) c.s ρ1 ρ2 n hc hcE ∧ ak_mgo e (d + 40) ρ hm hmE ∧ hcE.2.2 = hc.2.2 := by
  intro P
  induction P using Nat.strongRecOn with
  | ind P ihP =>
    intro W
    induction W using Nat.strongRecOn with
    | ind W ihW =>
      intro g fs hc hm w ne hP hW cnt
      rcases ak_STEP (e := e) (d := d) (ρ1 := ρ1) (ρ2 := ρ2) (ρ := ρ) w ne (fun q a b => by have := cnt q a b; omega) with ⟨n, g', fs', hc', hm', w', ne', tC, tM, h1, h2, h3, h4⟩ | ⟨n, hcE, hmE, o, F, h1, tC, tM, h3⟩
      · by_cases hn : n = 0
        · subst hn
          obtain ⟨n2, hcE, hmE, o, F, q1, q2, q3, q4⟩ := ihW (ak_wtop fs') (by have := h2 rfl; omega) g' fs' hc' hm' w' ne' (by omega) (Nat.le_refl _) (fun q a b => by have := cnt q a b; have := h4 q a b; omega)
          exact ⟨0 + n2, hcE, hmE, o, F, by omega, ak_turns_trans tC q2, ak_mgo_trans tM q3, q4.trans h3⟩
        · obtain ⟨n2, hcE, hmE, o, F, q1, q2, q3, q4⟩ := ihP (P - n) (by omega) (ak_wtop fs') g' fs' hc' hm' w' ne' (by omega) (Nat.le_refl _) (fun q a b => by have := cnt q a b; have := h4 q a b; omega)
          exact ⟨n + n2, hcE, hmE, o, F, by omega, ak_turns_trans tC q2, ak_mgo_trans tM q3, q4.trans h3⟩
      · exact ⟨n, hcE, hmE, o, F, by omega, tC, tM, h3⟩
end STEP
