/-! the run: a statement begins -/
section STMB
variable {e : ak_X3} {d ρ1 ρ2 P W y n N : Nat} {ρ : List Nat} {c : ak_Cx} {g : ak_Gh} {fs : List ak_Fr} {f : ak_Fr} {hc hm hmF : ak_S} {j : ak_Jb} {r js : List ak_Jb} {v : Int}
/-- no steps left for a statement -/
theorem ak_st_spent (w : ak_RN c g (f :: fs) hc hm) (fj : f.js = j :: r) (hk : j.k = 2) (hy : j.n = (y : Int)) (y18 : y < 18000) (h2 : ak_mC c.s c.h0 (ak_T c.s + 2) f.pc = 26) (h104 : hm.1 110 104 = 4000) : ak_OUT e d ρ1 ρ2 ρ c (ak_Phi hm (f :: fs)) W hc hm := by
  obtain ⟨hs, l60, fU, f5, φ5, sp0, F, L, J0, V, K0, ⟨l1, l2, l3⟩, ⟨d2, d3, d4, d5, o1, o2⟩, ⟨e1, e2, e3, e4, e5, o3⟩, ⟨x1, x2, x3, x4⟩, d72, lt1⟩ := ak_tp w
  obtain ⟨t1, t2, t3, t4, t5, t6⟩ := ak_tj w fj
  obtain ⟨b1, b2, b3, b4⟩ := ak_cd sp0 h2 (by decide)
  have j2 := sp0.2.2.2.2.2.1.1.2.2.1
  have AO : ∀ q k, ¬ (q = 32 ∧ k = 12) → ¬ (q = 72 ∧ k = fs.length) → (ak_atC hc fs.length f.pc).1 q k = hc.1 q k := fun q k a b => ak_atC_o a b
  have gC : ak_cgo e (d + 40) c.s ρ1 ρ2 72 [am_r 32] hc (am_up (ak_atC hc fs.length f.pc).1 32 11 2, (ak_atC hc fs.length f.pc).2) := fun Q X q => by
    refine ak_o72 (d := d + 39) (o := 26) w h2 (fun z => absurd z (by decide)) (fun _ z => absurd z (by decide)) (fun _ z => absurd z (by decide)) (fun _ z => absurd z (by decide)) (fun _ _ => ?_) (fun z => absurd z (by decide))
    refine ak_MV_of (Nat.le_of_ble_eq_true rfl) (am_k96_0 hs ⟨trivial, fun z => absurd rfl z.1, fun _ => ?_, fun z => absurd z (by decide), trivial⟩)
    exact am_s76 (d := d + 37) (n := 4000) hs (j2.trans h104) (Nat.le_refl _) (fun z => absurd z (by omega)) (fun _ => ⟨fun _ => q, fun z => absurd rfl z⟩)
  have EO : ∀ q k, ¬ (q = 32 ∧ (k = 11 ∨ k = 12)) → ¬ (q = 72 ∧ k = fs.length) → ((am_up (ak_atC hc fs.length f.pc).1 32 11 2, (ak_atC hc fs.length f.pc).2) : ak_S).1 q k = hc.1 q k := fun q k a b => (ak_up_out1 (by omega)).trans (AO q k (by omega) b)
  have E11 : ((am_up (ak_atC hc fs.length f.pc).1 32 11 2, (ak_atC hc fs.length f.pc).2) : ak_S).1 32 11 = 2 := ak_up_at1
  have E2 : ((am_up (ak_atC hc fs.length f.pc).1 32 11 2, (ak_atC hc fs.length f.pc).2) : ak_S).2 = hc.2 := rfl
  generalize ((am_up (ak_atC hc fs.length f.pc).1 32 11 2, (ak_atC hc fs.length f.pc).2) : ak_S) = hcE at gC EO E11 E2
  obtain ⟨x, hx⟩ : ∃ x, x = hm.1 119 y := ⟨_, rfl⟩
  have JO : ∀ q k, ¬ (q = 110 ∧ k = 132) → ¬ (201 ≤ q ∧ q ≤ 204) → (ak_jbM (ak_poM hm (ak_nJ fs + 1 + r.length)) (ak_nJ fs + 1 + r.length) 2 x 0 0).1 q k = hm.1 q k := fun q k a b => (ak_jb_out a (by omega)).trans (ak_poM_o a)
  have gM : ak_goV e (d + 40) ρ 291 [am_r 110, am_i j.n] (ak_poM hm (ak_nJ fs + 1 + r.length)) (am_up (ak_jbM (ak_poM hm (ak_nJ fs + 1 + r.length)) (ak_nJ fs + 1 + r.length) 2 x 0 0).1 110 105 2, (ak_jbM (ak_poM hm (ak_nJ fs + 1 + r.length)) (ak_nJ fs + 1 + r.length) 2 x 0 0).2) := fun Q X q => by
    rw [hy]
    refine ak_MV_of (Nat.le_of_ble_eq_true rfl) (am_k291_0 ⟨fun _ => ⟨by omega, ?_⟩, fun z => absurd z (by omega)⟩)
    rw [ak_natn, ak_poM_o (q := 119) (by omega), ← hx]
    refine am_s266 (d := d + 38) (n := ak_nJ fs + 1 + r.length) ak_poM_v (by omega) ?_
    exact am_s267 (d := d + 38) (n := 4000) ((JO _ _ (by omega) (by omega)).trans h104) (Nat.le_refl _) (fun z => absurd z (by omega)) (fun _ => ⟨fun z => absurd (show ((am_up (ak_jbM (ak_poM hm (ak_nJ fs + 1 + r.length)) (ak_nJ fs + 1 + r.length) 2 x 0 0).1 110 105 2, (ak_jbM (ak_poM hm (ak_nJ fs + 1 + r.length)) (ak_nJ fs + 1 + r.length) 2 x 0 0).2) : ak_S).1 110 105 = 2 from ak_up_at1) (by omega), fun _ => q⟩)
  have MO : ∀ q k, ¬ (q = 110 ∧ (k = 105 ∨ k = 132)) → ¬ (201 ≤ q ∧ q ≤ 204) → ((am_up (ak_jbM (ak_poM hm (ak_nJ fs + 1 + r.length)) (ak_nJ fs + 1 + r.length) 2 x 0 0).1 110 105 2, (ak_jbM (ak_poM hm (ak_nJ fs + 1 + r.length)) (ak_nJ fs + 1 + r.length) 2 x 0 0).2) : ak_S).1 q k = hm.1 q k := fun q k a b => (ak_up_out1 (by omega)).trans (JO q k (by omega) b)
  have M105 : ((am_up (ak_jbM (ak_poM hm (ak_nJ fs + 1 + r.length)) (ak_nJ fs + 1 + r.length) 2 x 0 0).1 110 105 2, (ak_jbM (ak_poM hm (ak_nJ fs + 1 + r.length)) (ak_nJ fs + 1 + r.length) 2 x 0 0).2) : ak_S).1 110 105 = 2 := ak_up_at1
  have M2 : ((am_up (ak_jbM (ak_poM hm (ak_nJ fs + 1 + r.length)) (ak_nJ fs + 1 + r.length) 2 x 0 0).1 110 105 2, (ak_jbM (ak_poM hm (ak_nJ fs + 1 + r.length)) (ak_nJ fs + 1 + r.length) 2 x 0 0).2) : ak_S).2 = hm.2 := rfl
  generalize ((am_up (ak_jbM (ak_poM hm (ak_nJ fs + 1 + r.length)) (ak_nJ fs + 1 + r.length) 2 x 0 0).1 110 105 2, (ak_jbM (ak_poM hm (ak_nJ fs + 1 + r.length)) (ak_nJ fs + 1 + r.length) 2 x 0 0).2) : ak_S) = hmE at gM MO M105 M2
  refine Or.inr ⟨1, hcE, hmE, 2, ak_fend_f w (Or.inl rfl) (ak_SP_fr sp0 (fun q k h => ⟨EO q k (by unfold ak_stC at h; omega) (by unfold ak_stC at h; omega), by rw [E2]⟩) (fun q k h => ⟨MO q k (fun z => h.1 ⟨z.1, by omega⟩) (by unfold ak_stM at h; omega), by rw [M2]⟩)) (fun q k a b z => EO q k (by omega) (by omega)) E11 M105, ?_, ak_turn1 hs (by omega) gC ((EO _ _ (by omega) (by omega)).trans o2), ak_job t1 (by omega) (by omega) t3 t4 (fun z => absurd z (by omega)) (fun _ => gM) (fun z => absurd z (by omega)) (fun z => absurd z (by omega)) (by omega), by rw [E2]⟩
  unfold ak_Phi
  show 1 ≤ _ + (ak_pcs fs + (9100 - f.pc) + 9101 * ak_gw f.js)
  omega
/-- a statement begins: its line on both sides, its jobs put -/
theorem ak_st_put (w : ak_RN c g (f :: fs) hc hm) (fj : f.js = j :: r) (hk : j.k = 2) (h2 : ak_mC c.s c.h0 (ak_T c.s + 2) f.pc = 26) (h3 : ak_mC c.s c.h0 (ak_T c.s + 3) f.pc = v) (h104 : hm.1 110 104 = (N : Int)) (hN : N < 4000)
    (mo : ∀ q i, ¬ (q = 110 ∧ (i = 104 ∨ i = 132)) → ¬ (201 ≤ q ∧ q ≤ 204 ∧ ak_nJ fs + 1 + r.length ≤ i) → ¬ (q = 183 ∧ i = g.φ f.r) → hmF.1 q i = hm.1 q i) (m183 : hmF.1 183 (g.φ f.r) = v) (m104 : hmF.1 110 104 = ((N + 1 : Nat) : Int)) (m2 : hmF.2 = hm.2) (m132 : hmF.1 110 132 = ((ak_nJ fs + 1 + js.length : Nat) : Int))
    (J : ak_JS g.O g.B g.φ (f.r :: ak_rms fs) fs.length (ak_nJ fs + 1) (ak_nG fs) (ak_nK fs) (ak_nT fs) hc hmF js) (eg : ak_gc js = ak_gc r ∧ ak_kc js = ak_kc r ∧ ak_gw js = ak_gw r) (K : ak_K (ak_mC c.s c.h0) (ak_mM c.us c.m0) (ak_T c.s) c.us (g.mt f.r + 40 * g.lv f.r) js (f.pc + 1) (f.vs.map (fun v => v.1))) (jl : js.length ≤ 6165)
    (gM : ak_goV e (d + 40) ρ 291 [am_r 110, am_i j.n] (ak_poM hm (ak_nJ fs + 1 + r.length)) hmF) : ak_OUT e d ρ1 ρ2 ρ c (ak_Phi hm (f :: fs)) W hc hm := by
  obtain ⟨hs, l60, fU, f5, φ5, sp0, F, L, J0, V, K0, ⟨l1, l2, l3⟩, ⟨d2, d3, d4, d5, o1, o2⟩, ⟨e1, e2, e3, e4, e5, o3⟩, ⟨x1, x2, x3, x4⟩, d72, lt1⟩ := ak_tp w
  obtain ⟨t1, t2, t3, t4, t5, t6⟩ := ak_tj w fj
  obtain ⟨g1, g2, g3⟩ := ak_gc_of (j := j) (r := r) (by omega)
  obtain ⟨b1, b2, b3, b4⟩ := ak_cd sp0 h2 (by decide)
  have j2 := sp0.2.2.2.2.2.1.1.2.2.1
  have spA := ak_tk_SP (t := fs.length) (pc := f.pc) (n := ak_nJ fs + 1 + r.length) sp0 h104 hN
  have w1 := ak_RN_line (v := v) w
  have V1 := (ak_tp w1).2.2.2.2.2.2.2.2.2.1
  obtain ⟨Av1, Av2, Av3, Av4⟩ := ak_tkA_v (hc := hc) (t := fs.length) (pc := f.pc) (N := N)
  have gC : ak_cgo e (d + 40) c.s ρ1 ρ2 72 [am_r 32] hc (am_up (ak_tkA hc fs.length f.pc N).1 73 fs.length v, (ak_tkA hc fs.length f.pc N).2) := fun Q X q => by
    refine ak_o72 (d := d + 39) (o := 26) w h2 (fun z => absurd z (by decide)) (fun _ z => absurd z (by decide)) (fun _ z => absurd z (by decide)) (fun _ z => absurd z (by decide)) (fun _ _ => ?_) (fun z => absurd z (by decide))
    rw [h3]
    refine ak_MV_of (Nat.le_of_ble_eq_true rfl) (am_k96_0 hs ⟨trivial, fun z => absurd rfl z.1, fun _ => ?_, fun z => absurd z (by decide), trivial⟩)
    refine am_s76 (d := d + 37) (n := N) hs (j2.trans h104) (by omega) (fun _ => ⟨fun z => absurd z (by decide), fun _ => ?_⟩) (fun z => absurd z (by omega))
    have q2 : (0 ≤ (ak_tkA hc fs.length f.pc N).1 32 12 ∧ (ak_tkA hc fs.length f.pc N).1 32 12 < (60 : Int)) ∧ Q (am_up (ak_tkA hc fs.length f.pc N).1 73 ((ak_tkA hc fs.length f.pc N).1 32 12).toNat v, (ak_tkA hc fs.length f.pc N).2) := by
      rw [Av3, ak_natn]
      exact ⟨by omega, q⟩
    exact q2
  have EO : ∀ q k, ¬ (q = 73 ∧ k = fs.length) → ((am_up (ak_tkA hc fs.length f.pc N).1 73 fs.length v, (ak_tkA hc fs.length f.pc N).2) : ak_S).1 q k = (ak_tkA hc fs.length f.pc N).1 q k := fun q k a => ak_up_out1 a
  have E73 : ((am_up (ak_tkA hc fs.length f.pc N).1 73 fs.length v, (ak_tkA hc fs.length f.pc N).2) : ak_S).1 73 fs.length = v := ak_up_at1
  have E2 : ((am_up (ak_tkA hc fs.length f.pc N).1 73 fs.length v, (ak_tkA hc fs.length f.pc N).2) : ak_S).2 = (ak_tkA hc fs.length f.pc N).2 := rfl
  generalize ((am_up (ak_tkA hc fs.length f.pc N).1 73 fs.length v, (ak_tkA hc fs.length f.pc N).2) : ak_S) = hcF at gC EO E73 E2
  have AO : ∀ q k, ¬ (q = 32 ∧ k = 12) → ¬ (q = 72 ∧ k = fs.length) → (ak_tkA hc fs.length f.pc N).1 q k = hc.1 q k := fun q k a b => ak_tkA_o a b
  have AJ : ∀ q k, ¬ (q = 64 ∧ k = 2) → (ak_tkA hc fs.length f.pc N).2.1 q k = hc.2.1 q k := fun q k a => ak_tkA_J a
  have BO : ∀ q k, ¬ (q = 110 ∧ (k = 104 ∨ k = 132)) → (ak_tkB hm (ak_nJ fs + 1 + r.length) N).1 q k = hm.1 q k := fun q k a => ak_tkB_o a
  obtain ⟨Bv1, Bv2, Bv3⟩ := ak_tkB_v (hm := hm) (n := ak_nJ fs + 1 + r.length) (N := N)
  generalize ak_tkA hc fs.length f.pc N = hA at spA AO AJ Av1 Av2 Av3 Av4 EO E2 gC
  generalize ak_tkB hm (ak_nJ fs + 1 + r.length) N = hB at spA BO Bv1 Bv2 Bv3
  -- the base: the line set
  have LC : ∀ q k, ¬ (q = 73 ∧ k = fs.length) → ((am_up hc.1 73 fs.length v, hc.2) : ak_S).1 q k = hc.1 q k := fun q k a => ak_up_out1 a
  have LC1 : ((am_up hc.1 73 fs.length v, hc.2) : ak_S).1 73 fs.length = v := ak_up_at1
  have LC2 : ((am_up hc.1 73 fs.length v, hc.2) : ak_S).2 = hc.2 := rfl
  have LM : ∀ q k, ¬ (q = 183 ∧ k = g.φ f.r) → ((am_up hm.1 183 (g.φ f.r) v, hm.2) : ak_S).1 q k = hm.1 q k := fun q k a => ak_up_out1 a
  have LM1 : ((am_up hm.1 183 (g.φ f.r) v, hm.2) : ak_S).1 183 (g.φ f.r) = v := ak_up_at1
  have LM2 : ((am_up hm.1 183 (g.φ f.r) v, hm.2) : ak_S).2 = hm.2 := rfl
  generalize ((am_up hc.1 73 fs.length v, hc.2) : ak_S) = hc1 at w1 V1 LC LC1 LC2
  generalize ((am_up hm.1 183 (g.φ f.r) v, hm.2) : ak_S) = hm1 at w1 V1 LM LM1 LM2
  have CC : ∀ q k, ¬ (q = 32 ∧ k = 12) → ¬ (q = 72 ∧ k = fs.length) → hcF.1 q k = hc1.1 q k := fun q k a b => by
    by_cases h : q = 73 ∧ k = fs.length
    · obtain ⟨rfl, rfl⟩ := h
      rw [E73, LC1]
    · rw [EO q k h, AO q k a b, LC q k h]
  have CJ : ∀ q k, ¬ (q = 64 ∧ k = 2) → hcF.2.1 q k = hc1.2.1 q k := fun q k a => by rw [E2, AJ q k a, LC2]
  have MM : ∀ q i, ¬ (q = 110 ∧ (i = 104 ∨ i = 132)) → ¬ (201 ≤ q ∧ q ≤ 204 ∧ ak_nJ fs + 1 + r.length ≤ i) → hmF.1 q i = hm1.1 q i := fun q i a b => by
    by_cases h : q = 183 ∧ i = g.φ f.r
    · obtain ⟨rfl, rfl⟩ := h
      rw [m183, LM1]
    · rw [mo q i a b h, LM q i h]
  have M2 : hmF.2 = hm1.2 := m2.trans LM2.symm
  have spF : ak_SPP c g (ak_rms (f :: fs)) hcF hmF := ak_SP_fr spA (fun q k h => ⟨EO q k (by unfold ak_stC at h; omega), by rw [E2]⟩) (fun q k h => ⟨by
    by_cases h4 : q = 110 ∧ k = 104
    · obtain ⟨rfl, rfl⟩ := h4
      rw [m104, Bv1]
    · have : ¬ (q = 110 ∧ (k = 104 ∨ k = 132)) := fun z => h.1 ⟨z.1, by omega⟩
      rw [mo q k this (by unfold ak_stM at h; omega) (by unfold ak_stM at h; omega), BO q k this], by rw [m2, Bv3]⟩)
  have w' : ak_RN c g (⟨f.r, f.pc + 1, js, f.vs⟩ :: fs) hcF hmF := ak_RN_red (pc' := f.pc + 1) (j := ak_nJ fs + 1 + r.length) w1 V1 (ak_JS_fr (Nat.le_refl _) (Nat.le_refl _) (fun _ _ => rfl) J (fun q k a b _ => ⟨(EO q k (by omega)).trans (AO q k (by omega) (by omega)), by rw [E2, AJ q k (by omega)]⟩) (fun _ _ _ _ _ => rfl) (fun _ _ _ _ _ => ⟨rfl, rfl⟩)) (by rw [fj, g1]; exact eg.1) (by rw [fj, g2]; exact eg.2.1) spF (ak_gle_refl w)
    ⟨fun q k h => CC q k (by omega) (by omega), fun q k h => CJ q k (by omega), fun y hy => ⟨CC _ _ (by omega) (by omega), CC _ _ (by omega) (by omega), CJ _ _ (by omega)⟩⟩ ⟨fun q k h => MM q k (by omega) (by omega), fun q k h => by rw [M2]⟩ (by omega) ((EO _ _ (by omega)).trans Av4) ((EO _ _ (by omega)).trans ((AO _ _ (by omega) (by omega)).trans d5)) ((EO _ _ (by omega)).trans ((AO _ _ (by omega) (by omega)).trans o1)) ((EO _ _ (by omega)).trans ((AO _ _ (by omega) (by omega)).trans o2)) ((mo _ _ (by omega) (by omega) (by omega)).trans o3) ((mo _ _ (by omega) (by omega) (by omega)).trans e3) m132 K ⟨jl, l2⟩
  refine ak_OUT1 w w' (by simp) gC (ak_job t1 (by omega) (by omega) t3 t4 (fun z => absurd z (by omega)) (fun _ => gM) (fun z => absurd z (by omega)) (fun z => absurd z (by omega)) (by omega)) ?_ (by rw [m104, h104]; omega) (by rw [E2]; exact Av2) (fun q a b => by rw [mo 110 q (by omega) (by omega) (by omega)]; omega)
  show ak_pcs fs + (9100 - (f.pc + 1)) + 9101 * ak_gw js + 1 ≤ ak_pcs fs + (9100 - f.pc) + 9101 * ak_gw f.js
  rw [fj, g3, eg.2.2]
  omega
end STMB
