/-! the run: a failure with nothing -/
section STM5
variable {e : ak_X3} {d ρ1 ρ2 P W y n N gd : Nat} {ρ : List Nat} {c : ak_Cx} {g : ak_Gh} {fs : List ak_Fr} {f : ak_Fr} {hc hm hcF hL : ak_S} {j : ak_Jb} {r js : List ak_Jb} {v : Int} {X : Nat → ak_S → Prop}
/-- it fails with nothing -/
theorem ak_st_f34 (w : ak_RN c g (f :: fs) hc hm) (fj : f.js = j :: r) (hk : j.k = 2) (hy : j.n = (y : Int)) (fv : f.vs = []) (h114 : ak_mM c.us c.m0 114 y = 34) (h115 : ak_mM c.us c.m0 115 y < 0) (h2 : ak_mC c.s c.h0 (ak_T c.s + 2) f.pc = 26) (h3 : ak_mC c.s c.h0 (ak_T c.s + 3) f.pc = ak_mM c.us c.m0 120 y) (h104 : hm.1 110 104 = (N : Int)) (hN : N < 4000) (h2' : ak_mC c.s c.h0 (ak_T c.s + 2) (f.pc + 1) = 1) (h2s : ak_mC c.s c.h0 (ak_T c.s + 2) (f.pc + 2) = 35) (h3s : ak_mC c.s c.h0 (ak_T c.s + 3) (f.pc + 2) = ak_mM c.us c.m0 116 y) (cnt : hm.1 110 109 < 1000000000) (jl : r.length + 1 ≤ 6165)
    (K : ∃ pc sh, ak_K (ak_mC c.s c.h0) (ak_mM c.us c.m0) (ak_T c.s) c.us (g.mt f.r + 40 * g.lv f.r) (⟨2, ak_mM c.us c.m0 119 y, 0, 0, 0⟩ :: r) pc sh) : ak_OUT e d ρ1 ρ2 ρ c (ak_Phi hm (f :: fs)) W hc hm := by
  obtain ⟨hs, l60, fU, f5, φ5, sp0, F, L, J0, V, K0, ⟨l1, l2, l3⟩, ⟨d2, d3, d4, d5, o1, o2⟩, ⟨e1, e2, e3, e4, e5, o3⟩, ⟨x1, x2, x3, x4⟩, d72, lt1⟩ := ak_tp w
  obtain ⟨t1, t2, t3, t4, t5, t6⟩ := ak_tj w fj
  obtain ⟨g1, g2, g3⟩ := ak_gc_of (j := j) (r := r) (by omega)
  obtain ⟨b1, b2, b3, b4⟩ := ak_cd sp0 h2' (by decide)
  obtain ⟨bb1, bb2, bb3, bb4⟩ := ak_cd sp0 h2s (by decide)
  rw [h3s] at bb4
  obtain ⟨hcF, hL, ⟨CO, CJ, C12, C72, C73, C22⟩, ⟨LO, L104, L132, L183, L2⟩, spL, JL, gC, _, gL⟩ := ak_st_ln (e := e) (d := d) (ρ1 := ρ1) (ρ2 := ρ2) (ρ := ρ) w fj hk hy fv (by rw [h114]; decide) h2 h3 h104 hN
  have elen : f.vs.length = 0 := by rw [fv]; rfl
  rw [elen] at d5 x1
  rw [fj, g1] at d4 l3
  rw [fj, g2] at e5
  have hT := ak_T_bd hs
  have nb : ak_nV fs < 12600 := by omega
  -- the one's second turn
  have A : ∀ q k, ¬ (q = 32 ∧ k = 12) → ¬ ((q = 72 ∨ q = 73) ∧ k = fs.length) → (ak_atC hcF fs.length (f.pc + 1)).1 q k = hc.1 q k := fun q k a b => (ak_atC_o a (by omega)).trans (CO q k a b)
  have gC2 : ak_cgo e (d + 40) c.s ρ1 ρ2 72 [am_r 32] hcF (ak_psC (ak_atC hcF fs.length (f.pc + 1)) (ak_nV fs) 0 0) := fun Q X q => by
    refine ak_o72g (d := d + 39) (o := 1) (t := fs.length) (pc := f.pc + 1) hs (by omega) ((CO _ _ (by omega) (by omega)).trans d2) C72 ((CO _ _ (by omega) (by omega)).trans b1) (by rw [CO _ _ (by omega) (by omega)]; exact b2) b3 rfl (fun _ => ?_) (Or.inl (by decide)) (fun z => absurd z (by decide))
    refine ak_MV_of (Nat.le_of_ble_eq_true rfl) (am_k78_0 hs ?_)
    rw [ak_atC_12]
    exact ⟨by omega, trivial, fun z => absurd z (by decide), fun z => absurd z (by decide), fun _ => am_s73 (d := d + 37) hs ((A _ _ (by omega) (by omega)).trans d5) nb q, fun z => absurd z (by decide), fun z => absurd z (by decide), fun z => absurd z (by decide), fun z => absurd z (by decide), fun z => absurd z (by decide), trivial⟩
  have PO : ∀ q k, ¬ (q = 32 ∧ (k = 10 ∨ k = 12)) → ¬ ((q = 72 ∨ q = 73) ∧ k = fs.length) → ¬ (q = 108 ∧ k = ak_nV fs) → (ak_psC (ak_atC hcF fs.length (f.pc + 1)) (ak_nV fs) 0 0).1 q k = hc.1 q k := fun q k a b c' => (ak_psC_o c' (by omega)).trans (A q k (by omega) b)
  have PJ : ∀ q k, ¬ (q = 109 ∧ k = ak_nV fs) → (ak_psC (ak_atC hcF fs.length (f.pc + 1)) (ak_nV fs) 0 0).2.1 q k = hcF.2.1 q k := fun q k b => ak_psC_J b
  have P72 : (ak_psC (ak_atC hcF fs.length (f.pc + 1)) (ak_nV fs) 0 0).1 72 fs.length = ((f.pc + 2 : Nat) : Int) := (ak_psC_o (by omega) (by omega)).trans ak_atC_72
  have P73 : (ak_psC (ak_atC hcF fs.length (f.pc + 1)) (ak_nV fs) 0 0).1 73 fs.length = ak_mM c.us c.m0 120 y := (ak_psC_o (by omega) (by omega)).trans ((ak_atC_o (by omega) (by omega)).trans C73)
  obtain ⟨Pv1, Pv2, Pv3⟩ := ak_psC_v (hc := ak_atC hcF fs.length (f.pc + 1)) (n := ak_nV fs) (s := 0) (x := 0)
  have P22 : (ak_psC (ak_atC hcF fs.length (f.pc + 1)) (ak_nV fs) 0 0).2.2 = hc.2.2 := C22
  generalize ak_psC (ak_atC hcF fs.length (f.pc + 1)) (ak_nV fs) 0 0 = hcP at gC2 PO PJ P72 P73 Pv1 Pv2 Pv3 P22
  -- the third
  have SO : ∀ q k, ¬ (q = 32 ∧ (k = 10 ∨ k = 12)) → ¬ ((q = 72 ∨ q = 73) ∧ k = fs.length) → ¬ (q = 108 ∧ k = ak_nV fs) → (ak_szC (ak_atC hcP fs.length (f.pc + 2)) (ak_nV fs)).1 q k = hc.1 q k := fun q k a b c' => (ak_szC_o (by omega)).trans ((ak_atC_o (by omega) (by omega)).trans (PO q k a b c'))
  have S12 : (ak_szC (ak_atC hcP fs.length (f.pc + 2)) (ak_nV fs)).1 32 12 = (fs.length : Int) := (ak_szC_o (by omega)).trans ak_atC_12
  have S73 : (ak_szC (ak_atC hcP fs.length (f.pc + 2)) (ak_nV fs)).1 73 fs.length = ak_mM c.us c.m0 120 y := (ak_szC_o (by omega)).trans ((ak_atC_o (by omega) (by omega)).trans P73)
  have SJ : ∀ q k, ¬ (q = 109 ∧ k = ak_nV fs) → (ak_szC (ak_atC hcP fs.length (f.pc + 2)) (ak_nV fs)).2.1 q k = hcF.2.1 q k := fun q k b => PJ q k b
  have s1 : (ak_szC (ak_atC hcP fs.length (f.pc + 2)) (ak_nV fs)).1 108 (ak_nV fs) = 0 := (ak_szC_o (by omega)).trans ((ak_atC_o (by omega) (by omega)).trans Pv1)
  have s2 : (ak_szC (ak_atC hcP fs.length (f.pc + 2)) (ak_nV fs)).2.1 109 (ak_nV fs) = 0 := Pv2
  have S22 : (ak_szC (ak_atC hcP fs.length (f.pc + 2)) (ak_nV fs)).2.2 = hc.2.2 := P22
  have gC3 : ∀ hcX, ak_cgo e (d + 30) c.s ρ1 ρ2 77 [am_r 32, am_i (ak_mM c.us c.m0 116 y), am_i 0, am_l 0] (ak_szC (ak_atC hcP fs.length (f.pc + 2)) (ak_nV fs)) hcX → ak_cgo e (d + 40) c.s ρ1 ρ2 72 [am_r 32] hcP hcX := fun hcX h Q X q => by
    refine ak_o72g (d := d + 39) (o := 35) (t := fs.length) (pc := f.pc + 2) (v := ak_mM c.us c.m0 116 y) hs (by omega) ((PO _ _ (by omega) (by omega) (by omega)).trans d2) P72 ((PO _ _ (by omega) (by omega) (by omega)).trans bb1) (by rw [PO _ _ (by omega) (by omega) (by omega)]; exact bb2) bb3 ((PO _ _ (by omega) (by omega) (by omega)).trans bb4) (fun z => absurd z (by decide)) (Or.inr (by decide)) (fun _ => ?_)
    refine ak_MV_of (Nat.le_of_ble_eq_true rfl) (am_k97_0 hs ⟨trivial, fun z => absurd z (by decide), fun z => absurd z (by decide), fun z => absurd z (by decide), fun z => absurd z (by decide), fun _ => ?_, fun z => absurd z (by decide), fun z => absurd z (by decide), trivial⟩)
    refine am_s74 (d := d + 37) (n := ak_nV fs) hs ((ak_atC_o (by omega) (by omega)).trans Pv3) nb ?_
    rw [ak_natn, s1, s2]
    exact ⟨by omega, by omega, ak_MV_deep (show d + 30 ≤ d + 38 by omega) (h _ _ q)⟩
  generalize ak_szC (ak_atC hcP fs.length (f.pc + 2)) (ak_nV fs) = hcS at SO S12 S73 SJ s1 s2 S22 gC3
  have spS : ak_SPP c g (ak_rms (f :: fs)) hcS hL := ak_SP_fr spL (fun q k h => ⟨by
    unfold ak_stC at h
    rw [SO q k (by omega) (by omega) (by omega), CO q k (by omega) (by omega)], by
    unfold ak_stC at h
    exact SJ q k (by omega)⟩) (fun _ _ _ => ⟨rfl, rfl⟩)
  have SJ2 : ∀ q k, ¬ (q = 64 ∧ k = 2) → ¬ (q = 109 ∧ k = ak_nV fs) → hcS.2.1 q k = hc.2.1 q k := fun q k a b => (SJ q k b).trans (CJ q k a)
  have p77 : hcP.1 77 10 = 0 := (PO _ _ (by omega) (by omega) (by omega)).trans o2
  have p11 : hcP.1 32 11 = -1 := (PO _ _ (by omega) (by omega) (by omega)).trans o1
  have f77 : hcF.1 77 10 = 0 := (CO _ _ (by omega) (by omega)).trans o2
  have f11 : hcF.1 32 11 = -1 := (CO _ _ (by omega) (by omega)).trans o1
  have gl := (ak_gle_refl w).2.2
  have hsub : ∀ y, y ∈ ak_rms fs → y ∈ ak_rms (f :: fs) := fun y h => by simp [ak_rms] at h ⊢; exact Or.inr h
  have fre := sp0.2.2.2.2.1.1
  have rows := ak_LO_row L
  have ne : ∀ y, y ∈ ak_rms fs → g.φ y ≠ g.φ f.r := fun y hy z => by
    have h1 := fre.2.2.2.2.2.1 y f.r (gl y (hsub y hy)).1 fU z
    have h2 := rows.2.2.1 y hy
    have h3 := F.1.2.2.2.2.2.2.2.2
    rw [h1] at h2
    omega
  have nHs : ak_nH hcS (f :: fs) = ak_nH hc (f :: fs) := ak_nH_fr (fun k _ => SO 76 k (by omega) (by omega) (by omega))
  obtain ⟨hcX, hc', hm', q1, q2, q3, q4, q5, q6⟩ := ak_fail (e := e) (d := d) (ρ1 := ρ1) (ρ2 := ρ2) (ρ := ρ) (g := g) (js := ⟨2, ak_mM c.us c.m0 119 y, 0, 0, 0⟩ :: r) (kd := ak_mM c.us c.m0 116 y) (s := 0) (x := 0) (f := f) hs (by omega) spS
    (ak_F0_fr F (fun _ _ => rfl) fU rfl (fun q a b h1 h2 => SO q _ (by omega) (by omega) (by omega)) (S73.trans L183.symm) (SO _ _ (by omega) (by omega) (by omega)) (LO _ _ (by omega) (by omega) (by omega)) (fun q a b => LO q _ (by omega) (by omega) (by omega)))
    (ak_LO_fr (Nat.le_refl _) (Nat.le_refl _) L (fun y hy => ⟨(gl y (hsub y hy)).1, rfl, rfl, rfl, rfl, SO _ _ (by omega) (by omega) (by omega), SO _ _ (by omega) (by omega) (by omega), SJ2 _ _ (by omega) (by omega), LO _ _ (by omega) (by omega) (by have := ne y hy; omega), LO _ _ (by omega) (by omega) (by omega)⟩) (fun q k a b h => SO q k (by omega) (by omega) (by omega)) (fun q k a b h => ⟨SO q k (by omega) (by omega) (by omega), SJ2 q k (by omega) (by omega)⟩) (fun k h => ⟨SO 108 k (by omega) (by omega) (by omega), SJ2 109 k (by omega) (by omega)⟩) (fun q k a b h => LO q k (by omega) (by omega) (by omega)) (fun q k a b h => ⟨LO q k (by omega) (by omega) (by omega), by rw [L2]⟩) (fun k h => ⟨LO 199 k (by omega) (by omega) (by omega), by rw [L2]⟩))
    l60 ((SO _ _ (by omega) (by omega) (by omega)).trans d2) (by rw [SO _ _ (by omega) (by omega) (by omega), d3, nHs]) ((SO _ _ (by omega) (by omega) (by omega)).trans d4) ((SO _ _ (by omega) (by omega) (by omega)).trans o1) S12 ((LO _ _ (by omega) (by omega) (by omega)).trans e1) ((LO _ _ (by omega) (by omega) (by omega)).trans e2) (L132.trans (by rw [List.length_cons]; congr 1)) ((LO _ _ (by omega) (by omega) (by omega)).trans e5) ((LO _ _ (by omega) (by omega) (by omega)).trans o3)
    (ak_JS_fr (Nat.le_refl _) (Nat.le_refl _) (fun _ _ => rfl) JL (fun q k a b _ => ⟨SO q k (by omega) (by omega) (by omega), SJ2 q k (by omega) (by omega)⟩) (fun _ _ _ _ _ => rfl) (fun _ _ _ _ _ => ⟨rfl, rfl⟩)) K (by rw [List.length_cons]; omega) (by show ak_gc r + 0 ≤ 21; omega) (by show ak_gw r + 0 ≤ ak_gw f.js; rw [fj, g3]; exact Nat.le_refl _) ak_vk0 (by rw [LO _ _ (by omega) (by omega) (by omega)]; exact cnt)
  have tt : ak_turns e (d + 40) c.s ρ1 ρ2 (1 + 1 + 1) hc hc' := ak_turns_trans (ak_turns_trans (ak_turn1 hs (by omega) gC f77) (ak_turn1 hs (by omega) gC2 p77)) (ak_turnU hs (by omega) (gC3 _ q1) q2 q3)
  have mg : ak_mgo e (d + 40) ρ hm hm' := ak_job t1 (by omega) (by omega) t3 t4 (fun z => absurd z (by omega)) (fun _ Q X q => gL Q X h114 h115 (ak_MV_of (Nat.le_of_ble_eq_true rfl) (am_k270_0 (ak_MV_deep (show d + 25 ≤ d + 38 by omega) (q4 _ _ q))))) (fun z => absurd z (by omega)) (fun z => absurd z (by omega)) (by omega)
  have pP : ak_pcs (f :: fs) ≤ ak_pcs (f :: fs) := Nat.le_refl _
  rcases q6 with ⟨g2', fs', h1, h2x, h3x, h4, h5⟩ | ⟨o, h⟩
  · refine Or.inl ⟨1 + 1 + 1, g2', fs', hc', hm', h1, h2x, tt, mg, ?_, fun h => absurd h (by decide), q5.trans S22, fun q a b => ?_⟩
    · unfold ak_Phi
      rw [h4, L104, h104, Int.toNat_natCast, Int.toNat_natCast]
      omega
    · have := h5 q a b
      rw [LO 110 q (by omega) (by omega) (by omega)] at this
      omega
  · refine Or.inr ⟨1 + 1 + 1, hc', hm', o, h, ?_, tt, mg, q5.trans S22⟩
    unfold ak_Phi
    rw [h104, Int.toNat_natCast]
    omega
end STM5
