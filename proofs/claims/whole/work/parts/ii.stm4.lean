/-! the run: a guard begins; a failure with nothing -/
section STM4
variable {e : ak_X3} {d ρ1 ρ2 P W y n N gd : Nat} {ρ : List Nat} {c : ak_Cx} {g : ak_Gh} {fs : List ak_Fr} {f : ak_Fr} {hc hm hcF hL : ak_S} {j : ak_Jb} {r js : List ak_Jb} {v : Int} {X : Nat → ak_S → Prop}
theorem ak_gpC_o {h : ak_S} {n q k : Nat} {gg fr : Int} (a : ¬ (78 ≤ q ∧ q ≤ 81 ∧ k = n)) (b : ¬ (q = 77 ∧ k = 4)) : (ak_gpC h n gg fr).1 q k = h.1 q k := (ak_up_out1 b).trans ((ak_up_out (by omega)).trans ((ak_up_out (by omega)).trans ((ak_up_out (by omega)).trans (ak_up_out (by omega)))))
theorem ak_gpC_v {h : ak_S} {n : Nat} {gg fr : Int} : (ak_gpC h n gg fr).1 78 n = 0 ∧ (ak_gpC h n gg fr).1 79 n = gg ∧ (ak_gpC h n gg fr).1 80 n = fr ∧ (ak_gpC h n gg fr).1 77 4 = ((n + 1 : Nat) : Int) ∧ (ak_gpC h n gg fr).2 = h.2 := by
  unfold ak_gpC
  simp [am_up]
theorem ak_st_grd (w : ak_RN c g (f :: fs) hc hm) (fj : f.js = j :: r) (hk : j.k = 2) (hy : j.n = (y : Int)) (fv : f.vs = []) (h114 : ak_mM c.us c.m0 114 y = 35) (h2 : ak_mC c.s c.h0 (ak_T c.s + 2) f.pc = 26) (h3 : ak_mC c.s c.h0 (ak_T c.s + 3) f.pc = ak_mM c.us c.m0 120 y) (h104 : hm.1 110 104 = (N : Int)) (hN : N < 4000) (h2' : ak_mC c.s c.h0 (ak_T c.s + 2) (f.pc + 1) = 36) (h3' : ak_mC c.s c.h0 (ak_T c.s + 3) (f.pc + 1) = (gd : Int)) (jl : r.length + 3 ≤ 6165) (gl : ak_gc r + 1 ≤ 21)
    (K : ak_K (ak_mC c.s c.h0) (ak_mM c.us c.m0) (ak_T c.s) c.us (g.mt f.r + 40 * g.lv f.r) (⟨2, ak_mM c.us c.m0 115 y, 0, 0, 0⟩ :: ⟨9, (y : Int), 0, (ak_nT fs : Int), gd⟩ :: ⟨2, ak_mM c.us c.m0 119 y, 0, 0, 0⟩ :: r) (f.pc + 2) []) : ak_OUT e d ρ1 ρ2 ρ c (ak_Phi hm (f :: fs)) W hc hm := by
  obtain ⟨hs, l60, fU, f5, φ5, sp0, F, L, J0, V, K0, ⟨l1, l2, l3⟩, ⟨d2, d3, d4, d5, o1, o2⟩, ⟨e1, e2, e3, e4, e5, o3⟩, ⟨x1, x2, x3, x4⟩, d72, lt1⟩ := ak_tp w
  obtain ⟨t1, t2, t3, t4, t5, t6⟩ := ak_tj w fj
  obtain ⟨g1, g2, g3⟩ := ak_gc_of (j := j) (r := r) (by omega)
  obtain ⟨b1, b2, b3, b4⟩ := ak_cd sp0 h2' (by decide)
  rw [h3'] at b4
  have bT := (ak_cx (q := ak_T c.s + 1) (k := 2) sp0 (by omega))
  obtain ⟨y18, yq⟩ := ak_nde (q0 := 114) (y := y) sp0 (by omega) (by rw [h114]; decide)
  obtain ⟨hcF, hL, ⟨CO, CJ, C12, C72, C73, C22⟩, ⟨LO, L104, L132, L183, L2⟩, spL, JL, gC, gL, _⟩ := ak_st_ln (e := e) (d := d) (ρ1 := ρ1) (ρ2 := ρ2) (ρ := ρ) w fj hk hy fv (by rw [h114]; decide) h2 h3 h104 hN
  have etc : ak_tc f.vs = 0 := by rw [fv]; rfl
  have elen : f.vs.length = 0 := by rw [fv]; rfl
  rw [etc] at e3 x2
  rw [elen] at d5 x1
  rw [fj, g1] at d4 l3
  rw [fj, g2] at e5
  have hT := ak_T_bd hs
  have yb : 0 ≤ (y : Int) ∧ (y : Int) < 18000 := by omega
  have hgx := ak_nG_le L
  -- the one's second turn
  have A : ∀ q k, ¬ (q = 32 ∧ k = 12) → ¬ ((q = 72 ∨ q = 73) ∧ k = fs.length) → (ak_atC hcF fs.length (f.pc + 1)).1 q k = hc.1 q k := fun q k a b => (ak_atC_o a (by omega)).trans (CO q k a b)
  have A73 : (ak_atC hcF fs.length (f.pc + 1)).1 73 fs.length = ak_mM c.us c.m0 120 y := (ak_atC_o (by omega) (by omega)).trans C73
  have A72 : (ak_atC hcF fs.length (f.pc + 1)).1 72 fs.length = ((f.pc + 2 : Nat) : Int) := ak_atC_72
  have A12 : (ak_atC hcF fs.length (f.pc + 1)).1 32 12 = (fs.length : Int) := ak_atC_12
  have A2 : (ak_atC hcF fs.length (f.pc + 1)).2 = hcF.2 := rfl
  have gC2 : ak_cgo e (d + 40) c.s ρ1 ρ2 72 [am_r 32] hcF (ak_gpC (ak_atC hcF fs.length (f.pc + 1)) (ak_nG fs + ak_gc r) (gd : Int) (fs.length : Int)) := fun Q X q => by
    refine ak_o72g (d := d + 39) (o := 36) (t := fs.length) (pc := f.pc + 1) (v := (gd : Int)) hs (by omega) ((CO _ _ (by omega) (by omega)).trans d2) C72 ((CO _ _ (by omega) (by omega)).trans b1) (by rw [CO _ _ (by omega) (by omega)]; exact b2) b3 ((CO _ _ (by omega) (by omega)).trans b4) (fun z => absurd z (by decide)) (Or.inr (by decide)) (fun _ => ?_)
    refine ak_MV_of (Nat.le_of_ble_eq_true rfl) (am_k97_0 hs ⟨trivial, fun z => absurd z (by decide), fun z => absurd z (by decide), fun z => absurd z (by decide), fun z => absurd z (by decide), fun z => absurd z (by decide), fun _ => ?_, fun z => absurd z (by decide), trivial⟩)
    rw [A12]
    exact am_s53 (d := d + 37) (n := ak_nG fs + ak_gc r) ((A _ _ (by omega) (by omega)).trans d4) (by omega) q
  have GO : ∀ q k, ¬ (78 ≤ q ∧ q ≤ 81 ∧ k = ak_nG fs + ak_gc r) → ¬ (q = 77 ∧ k = 4) → (ak_gpC (ak_atC hcF fs.length (f.pc + 1)) (ak_nG fs + ak_gc r) (gd : Int) (fs.length : Int)).1 q k = (ak_atC hcF fs.length (f.pc + 1)).1 q k := fun q k a b => ak_gpC_o a b
  obtain ⟨G78, G79, G80, G4, G2⟩ := ak_gpC_v (h := ak_atC hcF fs.length (f.pc + 1)) (n := ak_nG fs + ak_gc r) (gg := (gd : Int)) (fr := (fs.length : Int))
  generalize ak_gpC (ak_atC hcF fs.length (f.pc + 1)) (ak_nG fs + ak_gc r) (gd : Int) (fs.length : Int) = hcG at gC2 GO G78 G79 G80 G4 G2
  have C : ∀ q k, ¬ (q = 32 ∧ k = 12) → ¬ ((q = 72 ∨ q = 73) ∧ k = fs.length) → ¬ (78 ≤ q ∧ q ≤ 81 ∧ k = ak_nG fs + ak_gc r) → ¬ (q = 77 ∧ k = 4) → hcG.1 q k = hc.1 q k := fun q k a1 a2 a3 a4 => (GO q k a3 a4).trans (A q k a1 a2)
  have GJ : ∀ q k, ¬ (q = 64 ∧ k = 2) → hcG.2.1 q k = hc.2.1 q k := fun q k a => by rw [G2, A2]; exact CJ q k a
  have G22 : hcG.2.2 = hc.2.2 := by rw [G2, A2]; exact C22
  have G72 : hcG.1 72 fs.length = ((f.pc + 2 : Nat) : Int) := (GO _ _ (by omega) (by omega)).trans A72
  have G73 : hcG.1 73 fs.length = ak_mM c.us c.m0 120 y := (GO _ _ (by omega) (by omega)).trans A73
  -- the other
  have NO : ∀ q k, ¬ (q = 110 ∧ k = 132) → ¬ (201 ≤ q ∧ q ≤ 204 ∧ (k = ak_nJ fs + 1 + r.length + 1 ∨ k = ak_nJ fs + 1 + r.length + 1 + 1)) → (ak_jbM (ak_jbM hL (ak_nJ fs + 1 + r.length + 1) 9 (y : Int) 0 (ak_nT fs : Int)) (ak_nJ fs + 1 + r.length + 1 + 1) 2 (ak_mM c.us c.m0 115 y) 0 0).1 q k = hL.1 q k := fun q k a b => (ak_jb_out a (by omega)).trans (ak_jb_out a (by omega))
  have N132 : (ak_jbM (ak_jbM hL (ak_nJ fs + 1 + r.length + 1) 9 (y : Int) 0 (ak_nT fs : Int)) (ak_nJ fs + 1 + r.length + 1 + 1) 2 (ak_mM c.us c.m0 115 y) 0 0).1 110 132 = ((ak_nJ fs + 1 + r.length + 1 + 1 + 1 : Nat) : Int) := ak_jb_132
  have N2 : (ak_jbM (ak_jbM hL (ak_nJ fs + 1 + r.length + 1) 9 (y : Int) 0 (ak_nT fs : Int)) (ak_nJ fs + 1 + r.length + 1 + 1) 2 (ak_mM c.us c.m0 115 y) 0 0).2 = hm.2 := L2
  have j9 : (ak_jbM hL (ak_nJ fs + 1 + r.length + 1) 9 (y : Int) 0 (ak_nT fs : Int)).1 201 (ak_nJ fs + 1 + r.length + 1) = 9 ∧ (ak_jbM hL (ak_nJ fs + 1 + r.length + 1) 9 (y : Int) 0 (ak_nT fs : Int)).1 202 (ak_nJ fs + 1 + r.length + 1) = (y : Int) ∧ (ak_jbM hL (ak_nJ fs + 1 + r.length + 1) 9 (y : Int) 0 (ak_nT fs : Int)).1 203 (ak_nJ fs + 1 + r.length + 1) = 0 ∧ (ak_jbM hL (ak_nJ fs + 1 + r.length + 1) 9 (y : Int) 0 (ak_nT fs : Int)).1 204 (ak_nJ fs + 1 + r.length + 1) = (ak_nT fs : Int) := by
    unfold ak_jbM
    simp [am_up]
  have JS1 : ak_JS g.O g.B g.φ (f.r :: ak_rms fs) fs.length (ak_nJ fs + 1) (ak_nG fs) (ak_nK fs) (ak_nT fs) hcG (ak_jbM hL (ak_nJ fs + 1 + r.length + 1) 9 (y : Int) 0 (ak_nT fs : Int)) (⟨9, (y : Int), 0, (ak_nT fs : Int), gd⟩ :: ⟨2, ak_mM c.us c.m0 119 y, 0, 0, 0⟩ :: r) := by
    refine ⟨j9, fun _ => ⟨⟨G78, G79, G80⟩, fun z => absurd (show (9 : Nat) = 10 from z) (by decide), rfl⟩, fun z => absurd (show (9 : Nat) = 11 from z) (by decide), ak_JS_fr (Nat.le_refl _) (Nat.le_refl _) (fun _ _ => rfl) JL (fun q k a b h => ?_) (fun q k a b h => ?_) (fun q k a b h => ⟨ak_jb_out (by omega) (by omega), rfl⟩)⟩
    · have h : k < ak_nG fs + (ak_gc r + 0) := h
      exact ⟨C q k (by omega) (by omega) (by omega) (by omega), GJ q k (by omega)⟩
    · rw [List.length_cons] at h
      exact ak_jb_out (by omega) (by omega)
  have JS2 := ak_JS_jb (k := 2) (w := 0) (jn := ak_mM c.us c.m0 115 y) (ja := 0) (jb := 0) JS1 (by decide)
  rw [List.length_cons, List.length_cons] at JS2
  have gM : ak_goV e (d + 40) ρ 291 [am_r 110, am_i j.n] (ak_poM hm (ak_nJ fs + 1 + r.length)) (ak_jbM (ak_jbM hL (ak_nJ fs + 1 + r.length + 1) 9 (y : Int) 0 (ak_nT fs : Int)) (ak_nJ fs + 1 + r.length + 1 + 1) 2 (ak_mM c.us c.m0 115 y) 0 0) := fun Q X q => gL Q X h114 (am_s266 (d := d + 38) (n := ak_nJ fs + 1 + r.length + 1) L132 (by omega) ⟨yb, by
    rw [ak_jb_out (by omega) (by omega), LO 115 y (by omega) (by omega) (by omega), yq 115 (by omega) (by omega)]
    exact am_s266 (d := d + 38) (n := ak_nJ fs + 1 + r.length + 1 + 1) ak_jb_132 (by omega) q⟩)
  have JS2 : ak_JS g.O g.B g.φ (f.r :: ak_rms fs) fs.length (ak_nJ fs + 1) (ak_nG fs) (ak_nK fs) (ak_nT fs) hcG (ak_jbM (ak_jbM hL (ak_nJ fs + 1 + r.length + 1) 9 (y : Int) 0 (ak_nT fs : Int)) (ak_nJ fs + 1 + r.length + 1 + 1) 2 (ak_mM c.us c.m0 115 y) 0 0) (⟨2, ak_mM c.us c.m0 115 y, 0, 0, 0⟩ :: ⟨9, (y : Int), 0, (ak_nT fs : Int), gd⟩ :: ⟨2, ak_mM c.us c.m0 119 y, 0, 0, 0⟩ :: r) := JS2
  generalize ak_jbM (ak_jbM hL (ak_nJ fs + 1 + r.length + 1) 9 (y : Int) 0 (ak_nT fs : Int)) (ak_nJ fs + 1 + r.length + 1 + 1) 2 (ak_mM c.us c.m0 115 y) 0 0 = hmF at NO N132 N2 JS2 gM
  clear JS1 j9 JL gL
  have M : ∀ q k, ¬ (q = 110 ∧ (k = 104 ∨ k = 132)) → ¬ (201 ≤ q ∧ q ≤ 204 ∧ ak_nJ fs + 1 + r.length ≤ k) → ¬ (q = 183 ∧ k = g.φ f.r) → hmF.1 q k = hm.1 q k := fun q k a b c' => (NO q k (by omega) (by omega)).trans (LO q k (by omega) (by omega) c')
  have spF : ak_SPP c g (ak_rms (f :: fs)) hcG hmF := ak_SP_fr spL (fun q k h => ⟨by
    unfold ak_stC at h
    rw [C q k (by omega) (by omega) (by omega) (by omega), CO q k (by omega) (by omega)], by
    rw [G2, A2]⟩) (fun q k h => ⟨NO q k (by unfold ak_stM at h; omega) (by unfold ak_stM at h; omega), by rw [N2, L2]⟩)
  have M104 : hmF.1 110 104 = ((N + 1 : Nat) : Int) := (NO _ _ (by omega) (by omega)).trans L104
  have M183 : hmF.1 183 (g.φ f.r) = ak_mM c.us c.m0 120 y := (NO _ _ (by omega) (by omega)).trans L183
  have w' := ak_RN_any (vs' := []) (pc' := f.pc + 2) (js' := ⟨2, ak_mM c.us c.m0 115 y, 0, 0, 0⟩ :: ⟨9, (y : Int), 0, (ak_nT fs : Int), gd⟩ :: ⟨2, ak_mM c.us c.m0 119 y, 0, 0, 0⟩ :: r) w spF (fun q k h => C q k (by omega) (by omega) (by omega) (by omega)) (fun q k h => GJ q k (by omega)) (fun y hy => ⟨C _ _ (by omega) (by omega) (by omega) (by omega), C _ _ (by omega) (by omega) (by omega) (by omega), GJ _ _ (by omega)⟩)
    (fun q k h => M q k (by omega) (by omega) (by omega)) (fun q k h => by rw [N2]) (G73.trans M183.symm) G72 (G4.trans (by rfl)) ((C _ _ (by omega) (by omega) (by omega) (by omega)).trans d5) ((C _ _ (by omega) (by omega) (by omega) (by omega)).trans o1) ((C _ _ (by omega) (by omega) (by omega) (by omega)).trans o2) ((M _ _ (by omega) (by omega) (by omega)).trans o3) ((M _ _ (by omega) (by omega) (by omega)).trans e3) (N132.trans (by rw [List.length_cons, List.length_cons, List.length_cons]; congr 1)) ((M _ _ (by omega) (by omega) (by omega)).trans e5)
    JS2 trivial K ⟨by rw [List.length_cons, List.length_cons, List.length_cons]; omega, by show 0 ≤ 151; decide, by show ak_gc r + 0 + 1 + 0 ≤ 21; omega⟩
  have g77 : hcF.1 77 10 = 0 := (CO _ _ (by omega) (by omega)).trans o2
  have g11 : hcF.1 32 11 = -1 := (CO _ _ (by omega) (by omega)).trans o1
  refine Or.inl ⟨1 + 1, g, _, hcG, hmF, w', by simp, ak_turns_trans (ak_turn1 hs (by omega) gC g77) (ak_turn1 hs (by omega) gC2 ((C _ _ (by omega) (by omega) (by omega) (by omega)).trans o2)), ak_job t1 (by omega) (by omega) t3 t4 (fun z => absurd z (by omega)) (fun _ => gM) (fun z => absurd z (by omega)) (fun z => absurd z (by omega)) (by omega), ?_, fun h => absurd h (by decide), G22, fun q a b => by rw [M 110 q (by omega) (by omega) (by omega)]; omega⟩
  unfold ak_Phi
  rw [M104, h104, Int.toNat_natCast, Int.toNat_natCast]
  show 18300 * (4000 - (N + 1)) + (ak_pcs fs + (9100 - (f.pc + 2)) + 9101 * (ak_gw r + 0 + 2 + 0)) + (1 + 1) ≤ 18300 * (4000 - N) + (ak_pcs fs + (9100 - f.pc) + 9101 * ak_gw f.js)
  rw [fj, g3]
  omega
end STM4
