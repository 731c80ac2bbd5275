/-! the run: a statement's line, and what comes at once; a guard -/
section STM3
variable {e : ak_X3} {d ρ1 ρ2 P W y n N gd : Nat} {ρ : List Nat} {c : ak_Cx} {g : ak_Gh} {fs : List ak_Fr} {f : ak_Fr} {hc hm hcF hL : ak_S} {j : ak_Jb} {r js : List ak_Jb} {v : Int} {X : Nat → ak_S → Prop}
theorem ak_st_ln (w : ak_RN c g (f :: fs) hc hm) (fj : f.js = j :: r) (hk : j.k = 2) (hy : j.n = (y : Int)) (fv : f.vs = []) (h77 : ak_mM c.us c.m0 114 y ≠ -77) (h2 : ak_mC c.s c.h0 (ak_T c.s + 2) f.pc = 26) (h3 : ak_mC c.s c.h0 (ak_T c.s + 3) f.pc = ak_mM c.us c.m0 120 y) (h104 : hm.1 110 104 = (N : Int)) (hN : N < 4000) :
    ∃ hcF hL : ak_S, ((∀ q k, ¬ (q = 32 ∧ k = 12) → ¬ ((q = 72 ∨ q = 73) ∧ k = fs.length) → hcF.1 q k = hc.1 q k) ∧ (∀ q k, ¬ (q = 64 ∧ k = 2) → hcF.2.1 q k = hc.2.1 q k) ∧ hcF.1 32 12 = (fs.length : Int) ∧ hcF.1 72 fs.length = ((f.pc + 1 : Nat) : Int) ∧ hcF.1 73 fs.length = ak_mM c.us c.m0 120 y ∧ hcF.2.2 = hc.2.2) ∧
      ((∀ q k, ¬ (q = 110 ∧ (k = 104 ∨ k = 132)) → ¬ (201 ≤ q ∧ q ≤ 204 ∧ k = ak_nJ fs + 1 + r.length) → ¬ (q = 183 ∧ k = g.φ f.r) → hL.1 q k = hm.1 q k) ∧ hL.1 110 104 = ((N + 1 : Nat) : Int) ∧ hL.1 110 132 = ((ak_nJ fs + 1 + r.length + 1 : Nat) : Int) ∧ hL.1 183 (g.φ f.r) = ak_mM c.us c.m0 120 y ∧ hL.2 = hm.2) ∧
      ak_SPP c g (ak_rms (f :: fs)) hcF hL ∧ ak_JS g.O g.B g.φ (f.r :: ak_rms fs) fs.length (ak_nJ fs + 1) (ak_nG fs) (ak_nK fs) (ak_nT fs) hc hL (⟨2, ak_mM c.us c.m0 119 y, 0, 0, 0⟩ :: r) ∧ ak_cgo e (d + 40) c.s ρ1 ρ2 72 [am_r 32] hc hcF ∧
      (∀ (Q : ak_S → Prop) (X : Nat → ak_S → Prop), ak_mM c.us c.m0 114 y = 35 → ak_MV e 1 (d + 39) ρ 266 [am_r 110, am_i 9, am_i (y : Int), am_i 0, am_i (ak_nT fs : Int)] hL (fun h10 => (0 ≤ (y : Int) ∧ (y : Int) < (18000 : Int)) ∧ ak_MV e 1 (d + 39) ρ 266 [am_r 110, am_i 2, am_i (h10.1 115 y), am_i 0, am_i 0] h10 Q (fun _ _ => False)) (fun _ _ => False) → ak_MV e 1 (d + 40) ρ 291 [am_r 110, am_i j.n] (ak_poM hm (ak_nJ fs + 1 + r.length)) Q X) ∧
      (∀ (Q : ak_S → Prop) (X : Nat → ak_S → Prop), ak_mM c.us c.m0 114 y = 34 → ak_mM c.us c.m0 115 y < 0 → ak_MV e 1 (d + 39) ρ 270 [am_r 110, am_i (ak_mM c.us c.m0 116 y)] hL Q (fun _ _ => False) → ak_MV e 1 (d + 40) ρ 291 [am_r 110, am_i j.n] (ak_poM hm (ak_nJ fs + 1 + r.length)) Q X) := by
  obtain ⟨hs, l60, fU, f5, φ5, sp0, F, L, J0, V, K0, ⟨l1, l2, l3⟩, ⟨d2, d3, d4, d5, o1, o2⟩, ⟨e1, e2, e3, e4, e5, o3⟩, ⟨x1, x2, x3, x4⟩, d72, lt1⟩ := ak_tp w
  obtain ⟨t1, t2, t3, t4, t5, t6⟩ := ak_tj w fj
  obtain ⟨b1, b2, b3, b4⟩ := ak_cd sp0 h2 (by decide)
  obtain ⟨y18, yq⟩ := ak_nde (q0 := 114) sp0 (by omega) h77
  have j2 := sp0.2.2.2.2.2.1.1.2.2.1
  have etc : ak_tc f.vs = 0 := by rw [fv]; rfl
  rw [etc] at e3 x2
  have yb : 0 ≤ (y : Int) ∧ (y : Int) < 18000 := by omega
  have φb : 0 ≤ (g.φ f.r : Int) ∧ (g.φ f.r : Int) < 564 := by omega
  have JL := ak_lnM_JS (N := N) (f' := g.φ f.r) (x := ak_mM c.us c.m0 119 y) (v := ak_mM c.us c.m0 120 y) t6
  have LO := fun q k a b z => ak_lnM_o (hm := hm) (N := N) (v := ak_mM c.us c.m0 120 y) (J := ak_nJ fs + 1 + r.length) (f' := g.φ f.r) (x := ak_mM c.us c.m0 119 y) (q := q) (k := k) a b z
  obtain ⟨L1, L2, L3, L4⟩ := ak_lnM_v (hm := hm) (N := N) (v := ak_mM c.us c.m0 120 y) (J := ak_nJ fs + 1 + r.length) (f' := g.φ f.r) (x := ak_mM c.us c.m0 119 y)
  have gL : ∀ (Q : ak_S → Prop), (ak_mM c.us c.m0 114 y = 35 → ak_MV e 1 (d + 39) ρ 266 [am_r 110, am_i 9, am_i (y : Int), am_i 0, am_i (ak_nT fs : Int)] (ak_lnM hm (ak_nJ fs + 1 + r.length) (g.φ f.r) N (ak_mM c.us c.m0 119 y) (ak_mM c.us c.m0 120 y)) (fun h10 => (0 ≤ (y : Int) ∧ (y : Int) < (18000 : Int)) ∧ ak_MV e 1 (d + 39) ρ 266 [am_r 110, am_i 2, am_i (h10.1 115 y), am_i 0, am_i 0] h10 (fun h8 => Q h8) (fun _ _ => False)) (fun _ _ => False)) →
      (ak_mM c.us c.m0 114 y = 34 → ak_MV e 1 (d + 39) ρ 270 [am_r 110, am_i (ak_mM c.us c.m0 116 y)] (ak_lnM hm (ak_nJ fs + 1 + r.length) (g.φ f.r) N (ak_mM c.us c.m0 119 y) (ak_mM c.us c.m0 120 y)) (fun h8 => Q h8) (fun _ _ => False)) → ((ak_mM c.us c.m0 114 y = 34 ∧ ak_mM c.us c.m0 115 y < 0) ∨ ak_mM c.us c.m0 114 y = 35) → ∀ X, ak_MV e 1 (d + 40) ρ 291 [am_r 110, am_i j.n] (ak_poM hm (ak_nJ fs + 1 + r.length)) Q X := fun Q fin fin2 hk0 X => by
    rw [hy]
    refine ak_MV_of (Nat.le_of_ble_eq_true rfl) (am_k291_0 ⟨fun _ => ⟨yb, ?_⟩, fun z => absurd z (by omega)⟩)
    rw [ak_natn, ak_poM_o (q := 119) (by omega), yq 119 (by omega) (by omega)]
    refine am_s266 (d := d + 38) (n := ak_nJ fs + 1 + r.length) ak_poM_v (by omega) ?_
    have JO : ∀ q k, ¬ (q = 110 ∧ k = 132) → ¬ (201 ≤ q ∧ q ≤ 204) → (ak_jbM (ak_poM hm (ak_nJ fs + 1 + r.length)) (ak_nJ fs + 1 + r.length) 2 (ak_mM c.us c.m0 119 y) 0 0).1 q k = hm.1 q k := fun q k a b => (ak_jb_out a (by omega)).trans (ak_poM_o a)
    refine am_s267 (d := d + 38) (n := N) ((JO _ _ (by omega) (by omega)).trans h104) (by omega) (fun _ => ?_) (fun z => absurd z (by omega))
    have TO : ∀ q k, ¬ (q = 110 ∧ (k = 104 ∨ k = 132)) → ¬ (201 ≤ q ∧ q ≤ 204) → ((am_up (ak_jbM (ak_poM hm (ak_nJ fs + 1 + r.length)) (ak_nJ fs + 1 + r.length) 2 (ak_mM c.us c.m0 119 y) 0 0).1 110 104 ((N + 1 : Nat) : Int), (ak_jbM (ak_poM hm (ak_nJ fs + 1 + r.length)) (ak_nJ fs + 1 + r.length) 2 (ak_mM c.us c.m0 119 y) 0 0).2) : ak_S).1 q k = hm.1 q k := fun q k a b => (ak_up_out1 (by omega)).trans (JO q k (by omega) b)
    obtain ⟨h5, eh5⟩ : ∃ h5 : ak_S, h5 = (am_up (ak_jbM (ak_poM hm (ak_nJ fs + 1 + r.length)) (ak_nJ fs + 1 + r.length) 2 (ak_mM c.us c.m0 119 y) 0 0).1 110 104 ((N + 1 : Nat) : Int), (ak_jbM (ak_poM hm (ak_nJ fs + 1 + r.length)) (ak_nJ fs + 1 + r.length) 2 (ak_mM c.us c.m0 119 y) 0 0).2) := ⟨_, rfl⟩
    have eL : ak_lnM hm (ak_nJ fs + 1 + r.length) (g.φ f.r) N (ak_mM c.us c.m0 119 y) (ak_mM c.us c.m0 120 y) = (am_up h5.1 183 (g.φ f.r) (ak_mM c.us c.m0 120 y), h5.2) := by rw [eh5]; rfl
    rw [eL] at fin fin2
    rw [← eh5] at TO ⊢
    clear eL eh5
    rw [TO 110 105 (by omega) (by omega), o3, TO 110 102 (by omega) (by omega), e1, ak_natn, TO 114 y (by omega) (by omega), yq 114 (by omega) (by omega), TO 120 y (by omega) (by omega), yq 120 (by omega) (by omega), TO 115 y (by omega) (by omega), yq 115 (by omega) (by omega), TO 116 y (by omega) (by omega), yq 116 (by omega) (by omega), TO 110 127 (by omega) (by omega), e3]
    exact ⟨fun _ => ⟨yb, φb, yb, trivial, fun z => absurd hk0 (by omega), fun z => absurd hk0 (by omega), fun z => absurd hk0 (by omega), fun z => absurd hk0 (by omega), fun z => absurd hk0 (by omega), fun z => absurd hk0 (by omega), fun z => absurd hk0 (by omega), fun z => absurd hk0 (by omega), fun z => absurd hk0 (by omega), fun z => absurd hk0 (by omega), fun z => absurd hk0 (by omega), fun z => absurd hk0 (by omega), fun z => absurd hk0 (by omega), fun z => ⟨yb, fun z2 => absurd hk0 (by omega), fun _ => ⟨yb, fin2 (by omega)⟩⟩, fun z => fin (by omega), trivial⟩, fun z => absurd z (by omega)⟩
  generalize ak_lnM hm (ak_nJ fs + 1 + r.length) (g.φ f.r) N (ak_mM c.us c.m0 119 y) (ak_mM c.us c.m0 120 y) = hL at JL LO L1 L2 L3 L4 gL
  have spA := ak_tk_SP (t := fs.length) (pc := f.pc) (n := ak_nJ fs + 1 + r.length) sp0 h104 hN
  obtain ⟨Av1, Av2, Av3, Av4⟩ := ak_tkA_v (hc := hc) (t := fs.length) (pc := f.pc) (N := N)
  have gC : ak_cgo e (d + 40) c.s ρ1 ρ2 72 [am_r 32] hc (am_up (ak_tkA hc fs.length f.pc N).1 73 fs.length (ak_mM c.us c.m0 120 y), (ak_tkA hc fs.length f.pc N).2) := fun Q X q => by
    refine ak_o72 (d := d + 39) (o := 26) w h2 (fun z => absurd z (by decide)) (fun _ z => absurd z (by decide)) (fun _ z => absurd z (by decide)) (fun _ z => absurd z (by decide)) (fun _ _ => ?_) (fun z => absurd z (by decide))
    rw [h3]
    refine ak_MV_of (Nat.le_of_ble_eq_true rfl) (am_k96_0 hs ⟨trivial, fun z => absurd rfl z.1, fun _ => ?_, fun z => absurd z (by decide), trivial⟩)
    refine am_s76 (d := d + 37) (n := N) hs (j2.trans h104) (by omega) (fun _ => ⟨fun z => absurd z (by decide), fun _ => ?_⟩) (fun z => absurd z (by omega))
    have q2 : (0 ≤ (ak_tkA hc fs.length f.pc N).1 32 12 ∧ (ak_tkA hc fs.length f.pc N).1 32 12 < (60 : Int)) ∧ Q (am_up (ak_tkA hc fs.length f.pc N).1 73 ((ak_tkA hc fs.length f.pc N).1 32 12).toNat (ak_mM c.us c.m0 120 y), (ak_tkA hc fs.length f.pc N).2) := by
      rw [Av3, ak_natn]
      exact ⟨by omega, q⟩
    exact q2
  have BO : ∀ q k, ¬ (q = 110 ∧ (k = 104 ∨ k = 132)) → (ak_tkB hm (ak_nJ fs + 1 + r.length) N).1 q k = hm.1 q k := fun q k a => ak_tkB_o a
  obtain ⟨Bv1, Bv2, Bv3⟩ := ak_tkB_v (hm := hm) (n := ak_nJ fs + 1 + r.length) (N := N)
  generalize ak_tkB hm (ak_nJ fs + 1 + r.length) N = hB at spA BO Bv1 Bv2 Bv3
  have sM : ∀ q k, ak_stM q k → hL.1 q k = hB.1 q k := fun q k h => by
    unfold ak_stM at h
    by_cases h4 : q = 110 ∧ k = 104
    · rw [h4.1, h4.2, L1, Bv1]
    · rw [LO q k (by omega) (by omega) (by omega), BO q k (by omega)]
  refine ⟨_, hL, ⟨fun q k a b => (ak_up_out1 (by omega)).trans (ak_tkA_o a (by omega)), fun q k a => ak_tkA_J a, (ak_up_out1 (by omega)).trans Av3, (ak_up_out1 (by omega)).trans Av4, ak_up_at1, Av2⟩, ⟨LO, L1, L2, L3, L4⟩, ak_SP_fr spA (fun q k h => ⟨ak_up_out1 (by unfold ak_stC at h; omega), rfl⟩) (fun q k h => ⟨sM q k h, by rw [L4, Bv3]⟩), JL, gC, fun Q X h q => gL Q (fun _ => q) (fun z => absurd z (by omega)) (Or.inr h) X, fun Q X h h' q => gL Q (fun z => absurd z (by omega)) (fun _ => q) (Or.inl ⟨h, h'⟩) X⟩
end STM3
