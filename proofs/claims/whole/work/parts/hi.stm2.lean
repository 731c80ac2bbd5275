/-! the run: statements of two expressions -/
section STM2
variable {e : ak_X3} {d ρ1 ρ2 P W y n N kk : Nat} {ρ : List Nat} {c : ak_Cx} {g : ak_Gh} {fs : List ak_Fr} {f : ak_Fr} {hc hm : ak_S} {j : ak_Jb} {r js : List ak_Jb} {v : Int}
theorem ak_st_two {H J1 J2 c1 : Nat} (w : ak_RN c g (f :: fs) hc hm) (fj : f.js = j :: r) (hk : j.k = 2) (hy : j.n = (y : Int)) (fv : f.vs = []) (h2 : ak_mC c.s c.h0 (ak_T c.s + 2) f.pc = 26) (h3 : ak_mC c.s c.h0 (ak_T c.s + 3) f.pc = ak_mM c.us c.m0 120 y) (h104 : hm.1 110 104 = (N : Int)) (hN : N < 4000)
    (hk0 : ak_mM c.us c.m0 114 y = 23 ∨ ak_mM c.us c.m0 114 y = 24 ∨ ak_mM c.us c.m0 114 y = 27 ∨ ak_mM c.us c.m0 114 y = 28)
    (hH : H ≤ 150) (hJ : r.length + J1 + 3 ≤ 6165) (tt : ak_T3 (ak_mC c.s c.h0) (ak_mM c.us c.m0) (ak_T c.s) c.us 0 (ak_mM c.us c.m0 115 y) H (g.mt f.r + 40 * g.lv f.r) J1 (f.pc + 1) c1) (KD : ak_K (ak_mC c.s c.h0) (ak_mM c.us c.m0) (ak_T c.s) c.us (g.mt f.r + 40 * g.lv f.r) (⟨1, ak_mM c.us c.m0 116 y, 0, 0, 2 * J2⟩ :: ⟨4, (y : Int), 0, 0, 0⟩ :: ⟨2, ak_mM c.us c.m0 119 y, 0, 0, 0⟩ :: r) c1 [true]) : ak_OUT e d ρ1 ρ2 ρ c (ak_Phi hm (f :: fs)) W hc hm := by
  obtain ⟨hs, l60, fU, f5, φ5, sp0, F, L, J0, V, K0, ⟨l1, l2, l3⟩, ⟨d2, d3, d4, d5, o1, o2⟩, ⟨e1, e2, e3, e4, e5, o3⟩, ⟨x1, x2, x3, x4⟩, d72, lt1⟩ := ak_tp w
  obtain ⟨t1, t2, t3, t4, t5, t6⟩ := ak_tj w fj
  have h77 : ak_mM c.us c.m0 114 y ≠ -77 := by omega
  obtain ⟨y18, yq⟩ := ak_nde (q0 := 114) sp0 (by omega) h77
  have kl := ak_K_len tt
  have yb : 0 ≤ (y : Int) ∧ (y : Int) < 18000 := by omega
  have φb : 0 ≤ (g.φ f.r : Int) ∧ (g.φ f.r : Int) < 564 := by omega
  have JL := ak_lnM_JS (N := N) (f' := g.φ f.r) (x := ak_mM c.us c.m0 119 y) (v := ak_mM c.us c.m0 120 y) t6
  have LO := fun q k a b z => ak_lnM_o (hm := hm) (N := N) (v := ak_mM c.us c.m0 120 y) (J := ak_nJ fs + 1 + r.length) (f' := g.φ f.r) (x := ak_mM c.us c.m0 119 y) (q := q) (k := k) a b z
  obtain ⟨L1, L2, L3, L4⟩ := ak_lnM_v (hm := hm) (N := N) (v := ak_mM c.us c.m0 120 y) (J := ak_nJ fs + 1 + r.length) (f' := g.φ f.r) (x := ak_mM c.us c.m0 119 y)
  -- the other's step, from the line on
  have gL : ∀ (Q : ak_S → Prop), ak_MV e 1 (d + 39) ρ 266 [am_r 110, am_i 4, am_i (y : Int), am_i 0, am_i 0] (ak_lnM hm (ak_nJ fs + 1 + r.length) (g.φ f.r) N (ak_mM c.us c.m0 119 y) (ak_mM c.us c.m0 120 y)) (fun h6 => (0 ≤ (y : Int) ∧ (y : Int) < (18000 : Int)) ∧ ak_MV e 1 (d + 39) ρ 266 [am_r 110, am_i 1, am_i (h6.1 116 y), am_i 0, am_i 0] h6 (fun h7 => (0 ≤ (y : Int) ∧ (y : Int) < (18000 : Int)) ∧ ak_MV e 1 (d + 39) ρ 266 [am_r 110, am_i 1, am_i (h7.1 115 y), am_i 0, am_i 0] h7 (fun h8 => Q h8) (fun _ _ => False)) (fun _ _ => False)) (fun _ _ => False) → ∀ X, ak_MV e 1 (d + 40) ρ 291 [am_r 110, am_i j.n] (ak_poM hm (ak_nJ fs + 1 + r.length)) Q X := fun Q fin X => by
    rw [hy]
    refine ak_MV_of (Nat.le_of_ble_eq_true rfl) (am_k291_0 ⟨fun _ => ⟨yb, ?_⟩, fun z => absurd z (by omega)⟩)
    rw [ak_natn, ak_poM_o (q := 119) (by omega), yq 119 (by omega) (by omega)]
    refine am_s266 (d := d + 38) (n := ak_nJ fs + 1 + r.length) ak_poM_v (by omega) ?_
    have JO : ∀ q k, ¬ (q = 110 ∧ k = 132) → ¬ (201 ≤ q ∧ q ≤ 204) → (ak_jbM (ak_poM hm (ak_nJ fs + 1 + r.length)) (ak_nJ fs + 1 + r.length) 2 (ak_mM c.us c.m0 119 y) 0 0).1 q k = hm.1 q k := fun q k a b => (ak_jb_out a (by omega)).trans (ak_poM_o a)
    refine am_s267 (d := d + 38) (n := N) ((JO _ _ (by omega) (by omega)).trans h104) (by omega) (fun _ => ?_) (fun z => absurd z (by omega))
    have TO : ∀ q k, ¬ (q = 110 ∧ (k = 104 ∨ k = 132)) → ¬ (201 ≤ q ∧ q ≤ 204) → ((am_up (ak_jbM (ak_poM hm (ak_nJ fs + 1 + r.length)) (ak_nJ fs + 1 + r.length) 2 (ak_mM c.us c.m0 119 y) 0 0).1 110 104 ((N + 1 : Nat) : Int), (ak_jbM (ak_poM hm (ak_nJ fs + 1 + r.length)) (ak_nJ fs + 1 + r.length) 2 (ak_mM c.us c.m0 119 y) 0 0).2) : ak_S).1 q k = hm.1 q k := fun q k a b => (ak_up_out1 (by omega)).trans (JO q k (by omega) b)
    obtain ⟨h5, eh5⟩ : ∃ h5 : ak_S, h5 = (am_up (ak_jbM (ak_poM hm (ak_nJ fs + 1 + r.length)) (ak_nJ fs + 1 + r.length) 2 (ak_mM c.us c.m0 119 y) 0 0).1 110 104 ((N + 1 : Nat) : Int), (ak_jbM (ak_poM hm (ak_nJ fs + 1 + r.length)) (ak_nJ fs + 1 + r.length) 2 (ak_mM c.us c.m0 119 y) 0 0).2) := ⟨_, rfl⟩
    have eL : ak_lnM hm (ak_nJ fs + 1 + r.length) (g.φ f.r) N (ak_mM c.us c.m0 119 y) (ak_mM c.us c.m0 120 y) = (am_up h5.1 183 (g.φ f.r) (ak_mM c.us c.m0 120 y), h5.2) := by rw [eh5]; rfl
    rw [eL] at fin
    rw [← eh5] at TO ⊢
    clear eL eh5
    rw [TO 110 105 (by omega) (by omega), o3, TO 110 102 (by omega) (by omega), e1, ak_natn, TO 114 y (by omega) (by omega), yq 114 (by omega) (by omega), TO 120 y (by omega) (by omega), yq 120 (by omega) (by omega), TO 115 y (by omega) (by omega), yq 115 (by omega) (by omega)]
    have w144 : ak_W0 e 1 (d + 39) 291 ρ 144 [some (am_r 110), some (am_i (y : Int))] [] (am_up h5.1 183 (g.φ f.r) (ak_mM c.us c.m0 120 y), h5.2) (ak_qv Q X) := am_k291_144 (by
      rw [ak_natn]
      exact fin)
    exact ⟨fun _ => ⟨yb, φb, yb, trivial, fun z => absurd z (by omega), fun z => absurd z (by omega), fun z => w144, fun z => w144, fun z => absurd z (by omega), fun z => absurd z (by omega), fun z => w144, fun z => w144, fun z => absurd z (by omega), fun z => absurd z (by omega), fun z => absurd z (by omega), fun z => absurd z (by omega), fun z => absurd z (by omega), fun z => absurd z (by omega), fun z => absurd z (by omega), trivial⟩, fun z => absurd z (by omega)⟩
  generalize ak_lnM hm (ak_nJ fs + 1 + r.length) (g.φ f.r) N (ak_mM c.us c.m0 119 y) (ak_mM c.us c.m0 120 y) = hL at JL LO L1 L2 L3 L4 gL
  have JD := ak_JS_jb (k := 4) (w := 0) (jn := (y : Int)) (ja := 0) (jb := 0) JL (by decide)
  have JD := ak_JS_jb (k := 1) (w := 2 * J2) (jn := ak_mM c.us c.m0 116 y) (ja := 0) (jb := 0) JD (by decide)
  have JE := ak_JS_jb (k := 1) (w := 2 * J1) (jn := ak_mM c.us c.m0 115 y) (ja := 0) (jb := 0) JD (by decide)
  rw [List.length_cons, List.length_cons, List.length_cons] at JE
  have gM : ak_goV e (d + 40) ρ 291 [am_r 110, am_i j.n] (ak_poM hm (ak_nJ fs + 1 + r.length)) (ak_jbM (ak_jbM (ak_jbM hL (ak_nJ fs + 1 + (r.length + 1)) 4 (y : Int) 0 0) (ak_nJ fs + 1 + (r.length + 1 + 1)) 1 (ak_mM c.us c.m0 116 y) 0 0) (ak_nJ fs + 1 + (r.length + 1 + 1 + 1)) 1 (ak_mM c.us c.m0 115 y) 0 0) := fun Q X q => gL Q (by
    refine am_s266 (d := d + 38) (n := ak_nJ fs + 1 + (r.length + 1)) L2 (by omega) ⟨yb, ?_⟩
    rw [ak_jb_out (by omega) (by omega), LO 116 y (by omega) (by omega) (by omega), yq 116 (by omega) (by omega)]
    refine am_s266 (d := d + 38) (n := ak_nJ fs + 1 + (r.length + 1 + 1)) ak_jb_132 (by omega) ⟨yb, ?_⟩
    rw [ak_jb_out (by omega) (by omega), ak_jb_out (by omega) (by omega), LO 115 y (by omega) (by omega) (by omega), yq 115 (by omega) (by omega)]
    exact am_s266 (d := d + 38) (n := ak_nJ fs + 1 + (r.length + 1 + 1 + 1)) ak_jb_132 (by omega) q) X
  have MO : ∀ q i, ¬ (q = 110 ∧ (i = 104 ∨ i = 132)) → ¬ (201 ≤ q ∧ q ≤ 204 ∧ ak_nJ fs + 1 + r.length ≤ i) → ¬ (q = 183 ∧ i = g.φ f.r) → (ak_jbM (ak_jbM (ak_jbM hL (ak_nJ fs + 1 + (r.length + 1)) 4 (y : Int) 0 0) (ak_nJ fs + 1 + (r.length + 1 + 1)) 1 (ak_mM c.us c.m0 116 y) 0 0) (ak_nJ fs + 1 + (r.length + 1 + 1 + 1)) 1 (ak_mM c.us c.m0 115 y) 0 0).1 q i = hm.1 q i := fun q i a b z => (ak_jb_out (fun h => a ⟨h.1, Or.inr h.2⟩) (fun h => b ⟨h.1, h.2.1, by omega⟩)).trans ((ak_jb_out (fun h => a ⟨h.1, Or.inr h.2⟩) (fun h => b ⟨h.1, h.2.1, by omega⟩)).trans ((ak_jb_out (fun h => a ⟨h.1, Or.inr h.2⟩) (fun h => b ⟨h.1, h.2.1, by omega⟩)).trans (LO q i a (fun h => b ⟨h.1, h.2.1, by omega⟩) z)))
  have X3 : ∀ q i, ¬ (q = 110 ∧ i = 132) → ¬ (201 ≤ q ∧ q ≤ 204) → (ak_jbM (ak_jbM (ak_jbM hL (ak_nJ fs + 1 + (r.length + 1)) 4 (y : Int) 0 0) (ak_nJ fs + 1 + (r.length + 1 + 1)) 1 (ak_mM c.us c.m0 116 y) 0 0) (ak_nJ fs + 1 + (r.length + 1 + 1 + 1)) 1 (ak_mM c.us c.m0 115 y) 0 0).1 q i = hL.1 q i := fun q i a b => (ak_jb_out a (by omega)).trans ((ak_jb_out a (by omega)).trans (ak_jb_out a (by omega)))
  refine ak_st_put (N := N) (v := ak_mM c.us c.m0 120 y) w fj hk h2 h3 h104 hN MO ((X3 _ _ (by omega) (by omega)).trans L3) ((X3 _ _ (by omega) (by omega)).trans L1) L4 ?_ JE ⟨rfl, rfl, rfl⟩ ?_ ?_ gM
  · rw [ak_jb_132, List.length_cons, List.length_cons, List.length_cons, List.length_cons]
    congr 1
  · rw [fv]
    exact ak_K_mk (j := ⟨1, ak_mM c.us c.m0 115 y, 0, 0, 2 * J1⟩) ⟨c1, H, J1, rfl, by show 0 + H ≤ 151; omega, by rw [List.length_cons, List.length_cons, List.length_cons]; omega, tt, KD⟩
  · rw [List.length_cons, List.length_cons, List.length_cons, List.length_cons]; omega
end STM2
