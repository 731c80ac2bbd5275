/-! the run: what comes behind the parts of an expression, all of it -/
section AFTG
variable {e : ak_X3} {d ρ1 ρ2 W y n : Nat} {ρ : List Nat} {c : ak_Cx} {g : ak_Gh} {fs : List ak_Fr} {f : ak_Fr} {hc hm : ak_S} {j : ak_Jb} {r : List ak_Jb}
theorem ak_vsplit {b : Bool} : ∀ {n : Nat} {vs : List (Bool × Int × Int)} {sh' : List Bool}, vs.map (fun v => v.1) = List.replicate n true ++ b :: sh' → ∃ (u : List (Bool × Int × Int)) (v : Bool × Int × Int) (l : List (Bool × Int × Int)), vs = u ++ v :: l ∧ u.length = n ∧ (∀ z, z ∈ u → z.1 = true) ∧ v.1 = b ∧ l.map (fun v => v.1) = sh' := by
  intro n
  induction n with
  | zero =>
    intro vs sh' h
    cases vs with
    | nil => exact absurd h (by simp)
    | cons v l =>
      obtain ⟨h1, h2⟩ := List.cons.inj (show v.1 :: l.map (fun v => v.1) = b :: sh' from h)
      exact ⟨[], v, l, rfl, rfl, (fun z hz => by cases hz), h1, h2⟩
  | succ n ih =>
    intro vs sh' h
    cases vs with
    | nil => exact absurd h (by simp [List.replicate_succ])
    | cons v0 vs =>
      obtain ⟨h1, h2⟩ := List.cons.inj (show v0.1 :: vs.map (fun v => v.1) = true :: (List.replicate n true ++ b :: sh') from h)
      obtain ⟨u, v, l, a1, a2, a3, a4, a5⟩ := ih h2
      refine ⟨v0 :: u, v, l, by rw [a1]; rfl, by rw [List.length_cons, a2], fun z hz => ?_, a4, a5⟩
      rcases List.mem_cons.mp hz with rfl | hz
      · exact h1
      · exact a3 z hz
theorem ak_st_aft (w : ak_RN c g (f :: fs) hc hm) (fj : f.js = j :: r) (hk : j.k = 3) (K0 : ak_K0 (ak_mC c.s c.h0) (ak_mM c.us c.m0) (ak_T c.s) c.us (g.mt f.r + 40 * g.lv f.r) (ak_K (ak_mC c.s c.h0) (ak_mM c.us c.m0) (ak_T c.s) c.us (g.mt f.r + 40 * g.lv f.r) r) r j f.pc (f.vs.map (fun v => v.1))) (cnt : hm.1 110 109 < 1000000000) (cnt2 : hm.1 110 111 < 1000000000) : ak_OUT e d ρ1 ρ2 ρ c (ak_Phi hm (f :: fs)) W hc hm := by
  unfold ak_K0 at K0
  rw [hk] at K0
  obtain ⟨y, hy, sh', len, K, D⟩ := K0
  have lenl : ∀ {l : List (Bool × Int × Int)}, l.map (fun v => v.1) = sh' → l.length + 1 ≤ 151 := fun {l} h => by
    have := congrArg List.length h
    rw [List.length_map] at this
    omega
  rcases D with ⟨h114, h2, es⟩ | ⟨h114, h2, es⟩ | ⟨h114, hop, es⟩ | ⟨n, hn4, h117, D⟩
  · obtain ⟨u, v, l, fv, ul, _, v1, el⟩ := ak_vsplit (n := 0) es
    cases u with
    | nil => exact ak_af_cl w fj hk hy h114 h2 fv v1 (by rw [el]; exact K) (lenl el) cnt
    | cons z u => exact absurd ul (by rw [List.length_cons]; omega)
  · obtain ⟨u, v, l, fv, ul, _, v1, el⟩ := ak_vsplit (n := 0) es
    cases u with
    | nil => exact ak_af_min w fj hk hy h114 h2 fv v1 (by rw [el]; exact K) (lenl el) cnt
    | cons z u => exact absurd ul (by rw [List.length_cons]; omega)
  · obtain ⟨u, v, l, fv, ul, ut, v1, el⟩ := ak_vsplit (n := 1) es
    obtain ⟨o, eo⟩ : ∃ o : Nat, ak_mC c.s c.h0 (ak_T c.s + 2) f.pc = (o : Int) := Int.eq_ofNat_of_zero_le (by unfold ak_opr at hop; omega)
    cases u with
    | nil => exact absurd ul (by decide)
    | cons z u =>
      cases u with
      | nil =>
        rw [eo] at hop
        exact ak_af_two (o := o) w fj hk hy h114 eo hop fv (ut z List.mem_cons_self) v1 (by rw [el]; exact K) (lenl el) cnt
      | cons z2 u => exact absurd ul (by rw [List.length_cons, List.length_cons]; omega)
  · have z7 : ak_mM c.us c.m0 127 c.us = (c.z 7 : Int) := (ak_tx_z w.1.1.2).2.2.2.2.1
    rcases D with ⟨h114, h2, h3, h0, h1, es⟩ | ⟨h114, h2, h3, h0, h1, es⟩ | ⟨h114, h2, h3, es⟩
    · obtain ⟨i, ei⟩ := Int.eq_ofNat_of_zero_le h0
      obtain ⟨u, v, l, fv, ul, ut, v1, el⟩ := ak_vsplit es
      rw [ei] at h3
      exact ak_af_snd (kk := true) (i := i) w fj hk hy h114 h2 h3 h117 ei (by omega) hn4 fv ul ut v1 (by rw [el]; exact K) (lenl el) cnt cnt2
    · obtain ⟨i, ei⟩ := Int.eq_ofNat_of_zero_le h0
      obtain ⟨u, v, l, fv, ul, ut, v1, el⟩ := ak_vsplit es
      rw [ei] at h3
      exact ak_af_snd (kk := false) (i := i) w fj hk hy h114 h2 h3 h117 ei (by omega) hn4 fv ul ut v1 (by rw [el]; exact K) (lenl el) cnt cnt2
    · obtain ⟨u, v, l, fv, ul, ut, v1, el⟩ := ak_vsplit es
      exact ak_af_blk w fj hk hy h114 h2 h3 h117 hn4 fv ul ut v1 (by rw [el]; exact K) (lenl el) cnt
end AFTG
