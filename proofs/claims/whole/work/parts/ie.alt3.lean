/-! the run: a statement's end: an object is changed -/
section ALT3
variable {e : ak_X3} {d ρ1 ρ2 P W y n N T0 i k m : Nat} {ρ : List Nat} {c : ak_Cx} {g : ak_Gh} {fs : List ak_Fr} {f : ak_Fr} {hP hc hm : ak_S} {j : ak_Jb} {r : List ak_Jb} {v v2 : Bool × Int × Int} {x : Int} {X : Nat → ak_S → Prop}
set_option maxRecDepth 100000 in
theorem ak_i128_all : ∀ j : Fin 5248, (Int32.ofInt (j.1 : Int) >>> (Int32.ofInt 7 &&& 31)).toInt = ((j.1 / 128 : Nat) : Int) ∧ (Int32.ofInt (j.1 : Int) &&& Int32.ofInt 127).toInt = ((j.1 % 128 : Nat) : Int) := by decide +kernel
theorem ak_i128 (hm : m < 40) (hn : n < 100) : (Int32.ofInt ((m : Int) * 128 + (n : Int)) >>> (Int32.ofInt 7 &&& 31)).toInt = (m : Int) ∧ (Int32.ofInt ((m : Int) * 128 + (n : Int)) &&& Int32.ofInt 127).toInt = (n : Int) := by
  obtain ⟨a1, a2⟩ := ak_i128_all ⟨128 * m + n, by omega⟩
  dsimp only at a1 a2
  rw [show (128 * m + n) / 128 = m by omega] at a1
  rw [show (128 * m + n) % 128 = n by omega] at a2
  rw [show (m : Int) * 128 + (n : Int) = ((128 * m + n : Nat) : Int) by omega]
  exact ⟨a1, a2⟩
theorem ak_dn_24 (w : ak_RN c g (f :: fs) hc hm) (fj : f.js = j :: r) (hk : j.k = 4) (hy : j.n = (y : Int)) (fv : f.vs = [v, v2]) (v1 : v.1 = true) (v21 : v2.1 = true) (h114 : ak_mM c.us c.m0 114 y = 24) (h2 : ak_mC c.s c.h0 (ak_T c.s + 2) f.pc = ((21 : Nat) : Int)) (h3 : ak_mC c.s c.h0 (ak_T c.s + 3) f.pc = x) (h117 : ak_mM c.us c.m0 117 y = x) (cnt : hm.1 110 109 < 1000000000) (K : ak_K (ak_mC c.s c.h0) (ak_mM c.us c.m0) (ak_T c.s) c.us (g.mt f.r + 40 * g.lv f.r) r (f.pc + 1) []) : ak_OUT e d ρ1 ρ2 ρ c (ak_Phi hm (f :: fs)) W hc hm := by
  obtain ⟨hs, l60, fU, f5, φ5, sp0, F, L, J0, V, K0, ⟨l1, l2, l3⟩, ⟨d2, d3, d4, d5, o1, o2⟩, ⟨e1, e2, e3, e4, e5, o3⟩, ⟨x1, x2, x3, x4⟩, d72, lt1⟩ := ak_tp w
  obtain ⟨b1, b2, b3, b4⟩ := ak_cd sp0 h2 (by decide)
  obtain ⟨y18, yq⟩ := ak_nde (q0 := 114) (y := y) sp0 (by omega) (by rw [h114]; decide)
  have yO : ∀ q, 114 ≤ q → q ≤ 120 → (ak_poM hm (ak_nJ fs + 1 + r.length)).1 q y = ak_mM c.us c.m0 q y := fun q a b => (ak_poM_o (by omega)).trans (yq q a b)
  obtain ⟨hO1, hO2, hO3⟩ := sp0.2.2.1.2.2.2.2.1
  have A : ∀ q k, ¬ (q = 32 ∧ k = 12) → ¬ (q = 72 ∧ k = fs.length) → (ak_atC hc fs.length f.pc).1 q k = hc.1 q k := fun q k a b => ak_atC_o a b
  have A12 := ak_atC_12 (hc := hc) (t := fs.length) (pc := f.pc)
  have A72 := ak_atC_72 (hc := hc) (t := fs.length) (pc := f.pc)
  have A2 : (ak_atC hc fs.length f.pc).2 = hc.2 := rfl
  have etc : ak_tc f.vs = 2 := by rw [fv]; show 0 + (if v2.1 = true then 1 else 0) + (if v.1 = true then 1 else 0) = 2; rw [if_pos v1, if_pos v21]
  have elen : f.vs.length = 2 := by rw [fv]; rfl
  rw [etc] at e3 x2
  rw [elen] at d5 x1
  rw [fv] at V
  obtain ⟨⟨r1, r2, vk2⟩, r3, _, ⟨p1, p2, vk⟩, p3, _⟩ := V
  obtain ⟨r4, r5⟩ := r3 v1
  obtain ⟨p4, p5⟩ := p3 v21
  have tc1 : ak_tc [v2] = 1 := by show 0 + (if v2.1 = true then 1 else 0) = 1; rw [if_pos v21]
  rw [tc1] at r4 r5
  have r1 : hc.1 108 (ak_nV fs + 1) = v.2.1 := r1
  have r2 : hc.2.1 109 (ak_nV fs + 1) = v.2.2 := r2
  have p1 : hc.1 108 (ak_nV fs) = v2.2.1 := p1
  have p2 : hc.2.1 109 (ak_nV fs) = v2.2.2 := p2
  have p4 : hm.1 199 (ak_nT fs) = v2.2.1 := p4
  have p5 : hm.2.1 200 (ak_nT fs) = v2.2.2 := p5
  have gC0 := fun (Q : ak_S → Prop) (X : Nat → ak_S → Prop) (q : ak_MV e 0 (d + 39) (ak_rc c.s ρ1 ρ2) 95 [am_r 32, am_i ((21 : Nat) : Int), am_i (ak_mC c.s c.h0 (ak_T c.s + 3) f.pc)] (ak_atC hc fs.length f.pc) Q (fun _ _ => False)) => ak_o72 (d := d + 39) (o := 21) (X := X) w h2 (fun z => absurd z (by decide)) (fun _ z => absurd z (by decide)) (fun _ z => absurd z (by decide)) (fun _ _ => q) (fun z => absurd z (by decide)) (fun z => absurd z (by decide))
  generalize ak_atC hc fs.length f.pc = hA at A A12 A72 A2 gC0
  obtain ⟨hP, eP⟩ : ∃ hP : ak_S, hP = ak_szC (ak_szC hA (ak_nV fs + 1)) (ak_nV fs) := ⟨_, rfl⟩
  have PO0 : ∀ q k, ¬ (q = 32 ∧ k = 10) → hP.1 q k = hA.1 q k := fun q k a => by rw [eP]; exact (ak_szC_o a).trans (ak_szC_o a)
  have P10 : hP.1 32 10 = (ak_nV fs : Int) := by rw [eP]; exact ak_szC_v
  have P2 : hP.2 = hc.2 := by rw [eP]; exact A2
  have PO : ∀ q k, ¬ (q = 32 ∧ (k = 10 ∨ k = 12)) → ¬ (q = 72 ∧ k = fs.length) → hP.1 q k = hc.1 q k := fun q k a b => (PO0 q k (by omega)).trans (A q k (by omega) b)
  have P12 : hP.1 32 12 = (fs.length : Int) := (PO0 _ _ (by omega)).trans A12
  have P72 : hP.1 72 fs.length = ((f.pc + 1 : Nat) : Int) := (PO0 _ _ (by omega)).trans A72
  have g293 := fun (Q : ak_S → Prop) (X : Nat → ak_S → Prop) q => ak_293_24 (e := e) (ρ := ρ) (X := X) (Q := Q) (d := d + 39) (T0 := ak_nT fs + 1) y18 ((yO 114 (by omega) (by omega)).trans h114) ((ak_poM_o (by omega)).trans e3) (by omega) q
  by_cases hs2 : v2.2.1 = 2
  · have hw := vk.2.1 hs2
    obtain ⟨o, eo⟩ : ∃ o : Nat, v2.2.2 = (o : Int) := ⟨v2.2.2.toNat, by omega⟩
    refine ak_dn_alt (op := 0) (x := x) (sv := v.2.1) (wv := v.2.2) (sv' := v.2.1) (wv' := v.2.2) (o := o) w fj hk hy fv (by omega) cnt K PO P10 P12 P72 P2 (by omega) (by decide) (fun z => absurd z (by decide)) (fun _ => ⟨fun _ => ⟨rfl, rfl, vk2⟩, fun z => absurd (show (0 : Int) = 1 from z) (by decide)⟩) (fun rr hc2 run Q X q => gC0 Q X (am_c95a (d := d + 37) (s := v2.2.1) (w := v2.2.2) (s2 := v.2.1) (w2 := v.2.2) hs ((A _ _ (by omega) (by omega)).trans d5) (by omega) eP ((A _ _ (by omega) (by omega)).trans p1) (by rw [A2]; exact p2) ((A _ _ (by omega) (by omega)).trans r1) (by rw [A2]; exact r2) ((A _ _ (by omega) (by omega)).trans hO2) hO1 vk (fun z => absurd hs2 z) (fun _ => ?_))) (fun rr hm2 run Q X q => g293 Q X (am_m296 (d := d + 37) (T0 := ak_nT fs) (q7 := 24) (s2 := v.2.1) (w2 := v.2.2) (O := g.O) y18 ((yO 114 (by omega) (by omega)).trans h114) (by decide) (by rw [if_neg (by decide)]; exact (ak_poM_o (by omega)).trans e3) (by omega) ((ak_poM_o (by omega)).trans p4) p5 (fun _ => ⟨(ak_poM_o (by omega)).trans r4, r5⟩) hO1 vk (fun _ => vk2) (fun z => absurd z (by omega)) (fun _ _ => ?_)))
    · rw [eo, h3]
      refine run _ _ ?_
      exact q
    · rw [show (24 : Int) - 24 = 0 from rfl, if_neg (show ¬ (27 : Int) ≤ 24 by decide), if_pos rfl, if_pos rfl, yO 117 (by omega) (by omega), h117, eo]
      refine run _ _ ?_
      exact q
  · exact ak_dn_no w fj hk hy (by omega) cnt PO P12 P2 (fun Q X q => gC0 Q X (am_c95a (d := d + 37) (s := v2.2.1) (w := v2.2.2) (s2 := v.2.1) (w2 := v.2.2) hs ((A _ _ (by omega) (by omega)).trans d5) (by omega) eP ((A _ _ (by omega) (by omega)).trans p1) (by rw [A2]; exact p2) ((A _ _ (by omega) (by omega)).trans r1) (by rw [A2]; exact r2) ((A _ _ (by omega) (by omega)).trans hO2) hO1 vk (fun _ => q) (fun z => absurd z hs2))) (fun Q X q => g293 Q X (am_m296 (d := d + 37) (T0 := ak_nT fs) (q7 := 24) (s2 := v.2.1) (w2 := v.2.2) (O := g.O) y18 ((yO 114 (by omega) (by omega)).trans h114) (by decide) (by rw [if_neg (by decide)]; exact (ak_poM_o (by omega)).trans e3) (by omega) ((ak_poM_o (by omega)).trans p4) p5 (fun _ => ⟨(ak_poM_o (by omega)).trans r4, r5⟩) hO1 vk (fun _ => vk2) (fun _ => q) (fun z => absurd z hs2)))
theorem ak_dn_25 (w : ak_RN c g (f :: fs) hc hm) (fj : f.js = j :: r) (hk : j.k = 4) (hy : j.n = (y : Int)) (fv : f.vs = [v]) (v1 : v.1 = true) (h114 : ak_mM c.us c.m0 114 y = 25) (h2 : ak_mC c.s c.h0 (ak_T c.s + 2) f.pc = ((22 : Nat) : Int)) (h3 : ak_mC c.s c.h0 (ak_T c.s + 3) f.pc = (m : Int) * 128 + (n : Int)) (h117 : ak_mM c.us c.m0 117 y = (n : Int)) (h118 : ak_mM c.us c.m0 118 y = (m : Int)) (hn1 : n < 100) (hm1 : m < c.Mt) (hm4 : m < 40) (cnt : hm.1 110 109 < 1000000000) (K : ak_K (ak_mC c.s c.h0) (ak_mM c.us c.m0) (ak_T c.s) c.us (g.mt f.r + 40 * g.lv f.r) r (f.pc + 1) []) : ak_OUT e d ρ1 ρ2 ρ c (ak_Phi hm (f :: fs)) W hc hm := by
  obtain ⟨hs, l60, fU, f5, φ5, sp0, F, L, J0, V, K0, ⟨l1, l2, l3⟩, ⟨d2, d3, d4, d5, o1, o2⟩, ⟨e1, e2, e3, e4, e5, o3⟩, ⟨x1, x2, x3, x4⟩, d72, lt1⟩ := ak_tp w
  obtain ⟨b1, b2, b3, b4⟩ := ak_cd sp0 h2 (by decide)
  obtain ⟨y18, yq⟩ := ak_nde (q0 := 114) (y := y) sp0 (by omega) (by rw [h114]; decide)
  have yO : ∀ q, 114 ≤ q → q ≤ 120 → (ak_poM hm (ak_nJ fs + 1 + r.length)).1 q y = ak_mM c.us c.m0 q y := fun q a b => (ak_poM_o (by omega)).trans (yq q a b)
  obtain ⟨hO1, hO2, hO3⟩ := sp0.2.2.1.2.2.2.2.1
  have A : ∀ q k, ¬ (q = 32 ∧ k = 12) → ¬ (q = 72 ∧ k = fs.length) → (ak_atC hc fs.length f.pc).1 q k = hc.1 q k := fun q k a b => ak_atC_o a b
  have A12 := ak_atC_12 (hc := hc) (t := fs.length) (pc := f.pc)
  have A72 := ak_atC_72 (hc := hc) (t := fs.length) (pc := f.pc)
  have A2 : (ak_atC hc fs.length f.pc).2 = hc.2 := rfl
  have etc : ak_tc f.vs = 1 := by rw [fv]; show 0 + (if v.1 = true then 1 else 0) = 1; rw [if_pos v1]
  have elen : f.vs.length = 1 := by rw [fv]; rfl
  rw [etc] at e3 x2
  rw [elen] at d5 x1
  rw [fv] at V
  obtain ⟨⟨p1, p2, vk⟩, p3, _⟩ := V
  obtain ⟨p4, p5⟩ := p3 v1
  have p1 : hc.1 108 (ak_nV fs) = v.2.1 := p1
  have p2 : hc.2.1 109 (ak_nV fs) = v.2.2 := p2
  have p4 : hm.1 199 (ak_nT fs) = v.2.1 := p4
  have p5 : hm.2.1 200 (ak_nT fs) = v.2.2 := p5
  have gC0 := fun (Q : ak_S → Prop) (X : Nat → ak_S → Prop) (q : ak_MV e 0 (d + 39) (ak_rc c.s ρ1 ρ2) 95 [am_r 32, am_i ((22 : Nat) : Int), am_i (ak_mC c.s c.h0 (ak_T c.s + 3) f.pc)] (ak_atC hc fs.length f.pc) Q (fun _ _ => False)) => ak_o72 (d := d + 39) (o := 22) (X := X) w h2 (fun z => absurd z (by decide)) (fun _ z => absurd z (by decide)) (fun _ z => absurd z (by decide)) (fun _ _ => q) (fun z => absurd z (by decide)) (fun z => absurd z (by decide))
  generalize ak_atC hc fs.length f.pc = hA at A A12 A72 A2 gC0
  obtain ⟨hP, eP⟩ : ∃ hP : ak_S, hP = ak_szC hA (ak_nV fs) := ⟨_, rfl⟩
  have PO0 : ∀ q k, ¬ (q = 32 ∧ k = 10) → hP.1 q k = hA.1 q k := fun q k a => by rw [eP]; exact ak_szC_o a
  have P10 : hP.1 32 10 = (ak_nV fs : Int) := by rw [eP]; exact ak_szC_v
  have P2 : hP.2 = hc.2 := by rw [eP]; exact A2
  have PO : ∀ q k, ¬ (q = 32 ∧ (k = 10 ∨ k = 12)) → ¬ (q = 72 ∧ k = fs.length) → hP.1 q k = hc.1 q k := fun q k a b => (PO0 q k (by omega)).trans (A q k (by omega) b)
  have P12 : hP.1 32 12 = (fs.length : Int) := (PO0 _ _ (by omega)).trans A12
  have P72 : hP.1 72 fs.length = ((f.pc + 1 : Nat) : Int) := (PO0 _ _ (by omega)).trans A72
  have g293 := fun (Q : ak_S → Prop) (X : Nat → ak_S → Prop) q => ak_293_25 (e := e) (ρ := ρ) (X := X) (Q := Q) (d := d + 39) (T0 := ak_nT fs) y18 ((yO 114 (by omega) (by omega)).trans h114) ((ak_poM_o (by omega)).trans e3) (by omega) q
  obtain ⟨k1, k2⟩ := ak_i128 hm4 hn1
  by_cases hs2 : v.2.1 = 2
  · have hw := vk.2.1 hs2
    obtain ⟨o, eo⟩ : ∃ o : Nat, v.2.2 = (o : Int) := ⟨v.2.2.toNat, by omega⟩
    refine ak_dn_alt (op := 1) (x := (n : Int)) (sv := 4) (wv := (m : Int)) (sv' := 0) (wv' := (m : Int)) (o := o) w fj hk hy fv (by omega) cnt K PO P10 P12 P72 P2 (by omega) (by decide) (fun z => absurd z (by decide)) (fun _ => ⟨fun z => absurd (show (1 : Int) = 0 from z) (by decide), fun _ => ⟨rfl, rfl, by omega, by omega⟩⟩) (fun rr hc2 run Q X q => gC0 Q X (am_c95b (d := d + 37) (s := v.2.1) (w := v.2.2) hs ((A _ _ (by omega) (by omega)).trans d5) (by omega) eP ((A _ _ (by omega) (by omega)).trans p1) (by rw [A2]; exact p2) ((A _ _ (by omega) (by omega)).trans hO2) hO1 vk (Or.inl rfl) (fun z => absurd hs2 z) (fun _ _ => ?_) (fun _ z => absurd z (by decide)))) (fun rr hm2 run Q X q => g293 Q X (am_m296 (d := d + 37) (T0 := ak_nT fs) (q7 := 25) (s2 := 0) (w2 := 0) (B := g.B) (O := g.O) y18 ((yO 114 (by omega) (by omega)).trans h114) (by decide) (by rw [if_pos (by decide)]; exact (ak_poM_o (by omega)).trans e3) (by omega) ((ak_poM_o (by omega)).trans p4) p5 (fun z => absurd (by decide) z) hO1 vk (fun z => absurd (by decide) z) (fun z => absurd z (by omega)) (fun _ _ => ?_)))
    · rw [eo, h3, k1, k2]
      refine run _ _ ?_
      exact q
    · rw [show (25 : Int) - 24 = 1 from rfl, if_neg (show ¬ (27 : Int) ≤ 25 by decide), if_neg (show ¬ (25 : Int) = 24 by decide), if_neg (show ¬ (25 : Int) = 24 by decide), if_pos rfl, yO 117 (by omega) (by omega), h117, yO 118 (by omega) (by omega), h118, eo]
      refine run _ _ ?_
      exact q
  · exact ak_dn_no w fj hk hy (by omega) cnt PO P12 P2 (fun Q X q => gC0 Q X (am_c95b (d := d + 37) (s := v.2.1) (w := v.2.2) hs ((A _ _ (by omega) (by omega)).trans d5) (by omega) eP ((A _ _ (by omega) (by omega)).trans p1) (by rw [A2]; exact p2) ((A _ _ (by omega) (by omega)).trans hO2) hO1 vk (Or.inl rfl) (fun _ => q) (fun z => absurd z hs2) (fun z => absurd z hs2))) (fun Q X q => g293 Q X (am_m296 (d := d + 37) (T0 := ak_nT fs) (q7 := 25) (s2 := 0) (w2 := 0) (B := g.B) (O := g.O) y18 ((yO 114 (by omega) (by omega)).trans h114) (by decide) (by rw [if_pos (by decide)]; exact (ak_poM_o (by omega)).trans e3) (by omega) ((ak_poM_o (by omega)).trans p4) p5 (fun z => absurd (by decide) z) hO1 vk (fun z => absurd (by decide) z) (fun _ => q) (fun z => absurd z hs2)))
theorem ak_dn_26 (w : ak_RN c g (f :: fs) hc hm) (fj : f.js = j :: r) (hk : j.k = 4) (hy : j.n = (y : Int)) (fv : f.vs = [v]) (v1 : v.1 = true) (h114 : ak_mM c.us c.m0 114 y = 26) (h2 : ak_mC c.s c.h0 (ak_T c.s + 2) f.pc = ((23 : Nat) : Int)) (h3 : ak_mC c.s c.h0 (ak_T c.s + 3) f.pc = x) (h117 : ak_mM c.us c.m0 117 y = x) (cnt : hm.1 110 109 < 1000000000) (K : ak_K (ak_mC c.s c.h0) (ak_mM c.us c.m0) (ak_T c.s) c.us (g.mt f.r + 40 * g.lv f.r) r (f.pc + 1) []) : ak_OUT e d ρ1 ρ2 ρ c (ak_Phi hm (f :: fs)) W hc hm := by
  obtain ⟨hs, l60, fU, f5, φ5, sp0, F, L, J0, V, K0, ⟨l1, l2, l3⟩, ⟨d2, d3, d4, d5, o1, o2⟩, ⟨e1, e2, e3, e4, e5, o3⟩, ⟨x1, x2, x3, x4⟩, d72, lt1⟩ := ak_tp w
  obtain ⟨b1, b2, b3, b4⟩ := ak_cd sp0 h2 (by decide)
  obtain ⟨y18, yq⟩ := ak_nde (q0 := 114) (y := y) sp0 (by omega) (by rw [h114]; decide)
  have yO : ∀ q, 114 ≤ q → q ≤ 120 → (ak_poM hm (ak_nJ fs + 1 + r.length)).1 q y = ak_mM c.us c.m0 q y := fun q a b => (ak_poM_o (by omega)).trans (yq q a b)
  obtain ⟨hO1, hO2, hO3⟩ := sp0.2.2.1.2.2.2.2.1
  have A : ∀ q k, ¬ (q = 32 ∧ k = 12) → ¬ (q = 72 ∧ k = fs.length) → (ak_atC hc fs.length f.pc).1 q k = hc.1 q k := fun q k a b => ak_atC_o a b
  have A12 := ak_atC_12 (hc := hc) (t := fs.length) (pc := f.pc)
  have A72 := ak_atC_72 (hc := hc) (t := fs.length) (pc := f.pc)
  have A2 : (ak_atC hc fs.length f.pc).2 = hc.2 := rfl
  have etc : ak_tc f.vs = 1 := by rw [fv]; show 0 + (if v.1 = true then 1 else 0) = 1; rw [if_pos v1]
  have elen : f.vs.length = 1 := by rw [fv]; rfl
  rw [etc] at e3 x2
  rw [elen] at d5 x1
  rw [fv] at V
  obtain ⟨⟨p1, p2, vk⟩, p3, _⟩ := V
  obtain ⟨p4, p5⟩ := p3 v1
  have p1 : hc.1 108 (ak_nV fs) = v.2.1 := p1
  have p2 : hc.2.1 109 (ak_nV fs) = v.2.2 := p2
  have p4 : hm.1 199 (ak_nT fs) = v.2.1 := p4
  have p5 : hm.2.1 200 (ak_nT fs) = v.2.2 := p5
  have gC0 := fun (Q : ak_S → Prop) (X : Nat → ak_S → Prop) (q : ak_MV e 0 (d + 39) (ak_rc c.s ρ1 ρ2) 95 [am_r 32, am_i ((23 : Nat) : Int), am_i (ak_mC c.s c.h0 (ak_T c.s + 3) f.pc)] (ak_atC hc fs.length f.pc) Q (fun _ _ => False)) => ak_o72 (d := d + 39) (o := 23) (X := X) w h2 (fun z => absurd z (by decide)) (fun _ z => absurd z (by decide)) (fun _ z => absurd z (by decide)) (fun _ _ => q) (fun z => absurd z (by decide)) (fun z => absurd z (by decide))
  generalize ak_atC hc fs.length f.pc = hA at A A12 A72 A2 gC0
  obtain ⟨hP, eP⟩ : ∃ hP : ak_S, hP = ak_szC hA (ak_nV fs) := ⟨_, rfl⟩
  have PO0 : ∀ q k, ¬ (q = 32 ∧ k = 10) → hP.1 q k = hA.1 q k := fun q k a => by rw [eP]; exact ak_szC_o a
  have P10 : hP.1 32 10 = (ak_nV fs : Int) := by rw [eP]; exact ak_szC_v
  have P2 : hP.2 = hc.2 := by rw [eP]; exact A2
  have PO : ∀ q k, ¬ (q = 32 ∧ (k = 10 ∨ k = 12)) → ¬ (q = 72 ∧ k = fs.length) → hP.1 q k = hc.1 q k := fun q k a b => (PO0 q k (by omega)).trans (A q k (by omega) b)
  have P12 : hP.1 32 12 = (fs.length : Int) := (PO0 _ _ (by omega)).trans A12
  have P72 : hP.1 72 fs.length = ((f.pc + 1 : Nat) : Int) := (PO0 _ _ (by omega)).trans A72
  have g293 := fun (Q : ak_S → Prop) (X : Nat → ak_S → Prop) q => ak_293_26 (e := e) (ρ := ρ) (X := X) (Q := Q) (d := d + 39) (T0 := ak_nT fs) y18 ((yO 114 (by omega) (by omega)).trans h114) ((ak_poM_o (by omega)).trans e3) (by omega) q
  by_cases hs2 : v.2.1 = 2
  · have hw := vk.2.1 hs2
    obtain ⟨o, eo⟩ : ∃ o : Nat, v.2.2 = (o : Int) := ⟨v.2.2.toNat, by omega⟩
    refine ak_dn_alt (op := 2) (x := x) (sv := 0) (wv := 0) (sv' := 0) (wv' := 0) (o := o) w fj hk hy fv (by omega) cnt K PO P10 P12 P72 P2 (by omega) (by decide) (fun z => absurd z (by decide)) (fun z => absurd z (by decide)) (fun rr hc2 run Q X q => gC0 Q X (am_c95b (d := d + 37) (s := v.2.1) (w := v.2.2) hs ((A _ _ (by omega) (by omega)).trans d5) (by omega) eP ((A _ _ (by omega) (by omega)).trans p1) (by rw [A2]; exact p2) ((A _ _ (by omega) (by omega)).trans hO2) hO1 vk (Or.inr rfl) (fun z => absurd hs2 z) (fun _ z => absurd z (by decide)) (fun _ _ => ?_))) (fun rr hm2 run Q X q => g293 Q X (am_m296 (d := d + 37) (T0 := ak_nT fs) (q7 := 26) (s2 := 0) (w2 := 0) (B := g.B) (O := g.O) y18 ((yO 114 (by omega) (by omega)).trans h114) (by decide) (by rw [if_pos (by decide)]; exact (ak_poM_o (by omega)).trans e3) (by omega) ((ak_poM_o (by omega)).trans p4) p5 (fun z => absurd (by decide) z) hO1 vk (fun z => absurd (by decide) z) (fun z => absurd z (by omega)) (fun _ _ => ?_)))
    · rw [eo, h3]
      refine run _ _ ?_
      exact q
    · rw [show (26 : Int) - 24 = 2 from rfl, if_neg (show ¬ (27 : Int) ≤ 26 by decide), if_neg (show ¬ (26 : Int) = 24 by decide), if_neg (show ¬ (26 : Int) = 24 by decide), if_neg (show ¬ (26 : Int) = 25 by decide), yO 117 (by omega) (by omega), h117, eo]
      refine run _ _ ?_
      exact q
  · exact ak_dn_no w fj hk hy (by omega) cnt PO P12 P2 (fun Q X q => gC0 Q X (am_c95b (d := d + 37) (s := v.2.1) (w := v.2.2) hs ((A _ _ (by omega) (by omega)).trans d5) (by omega) eP ((A _ _ (by omega) (by omega)).trans p1) (by rw [A2]; exact p2) ((A _ _ (by omega) (by omega)).trans hO2) hO1 vk (Or.inr rfl) (fun _ => q) (fun z => absurd z hs2) (fun z => absurd z hs2))) (fun Q X q => g293 Q X (am_m296 (d := d + 37) (T0 := ak_nT fs) (q7 := 26) (s2 := 0) (w2 := 0) (B := g.B) (O := g.O) y18 ((yO 114 (by omega) (by omega)).trans h114) (by decide) (by rw [if_pos (by decide)]; exact (ak_poM_o (by omega)).trans e3) (by omega) ((ak_poM_o (by omega)).trans p4) p5 (fun z => absurd (by decide) z) hO1 vk (fun z => absurd (by decide) z) (fun _ => q) (fun z => absurd z hs2)))
theorem ak_dn_27 (w : ak_RN c g (f :: fs) hc hm) (fj : f.js = j :: r) (hk : j.k = 4) (hy : j.n = (y : Int)) (fv : f.vs = [v, v2]) (v1 : v.1 = true) (v21 : v2.1 = true) (h114 : ak_mM c.us c.m0 114 y = 27) (h2 : ak_mC c.s c.h0 (ak_T c.s + 2) f.pc = ((24 : Nat) : Int))  (cnt : hm.1 110 109 < 1000000000) (K : ak_K (ak_mC c.s c.h0) (ak_mM c.us c.m0) (ak_T c.s) c.us (g.mt f.r + 40 * g.lv f.r) r (f.pc + 1) []) : ak_OUT e d ρ1 ρ2 ρ c (ak_Phi hm (f :: fs)) W hc hm := by
  obtain ⟨hs, l60, fU, f5, φ5, sp0, F, L, J0, V, K0, ⟨l1, l2, l3⟩, ⟨d2, d3, d4, d5, o1, o2⟩, ⟨e1, e2, e3, e4, e5, o3⟩, ⟨x1, x2, x3, x4⟩, d72, lt1⟩ := ak_tp w
  obtain ⟨b1, b2, b3, b4⟩ := ak_cd sp0 h2 (by decide)
  obtain ⟨y18, yq⟩ := ak_nde (q0 := 114) (y := y) sp0 (by omega) (by rw [h114]; decide)
  have yO : ∀ q, 114 ≤ q → q ≤ 120 → (ak_poM hm (ak_nJ fs + 1 + r.length)).1 q y = ak_mM c.us c.m0 q y := fun q a b => (ak_poM_o (by omega)).trans (yq q a b)
  obtain ⟨hO1, hO2, hO3⟩ := sp0.2.2.1.2.2.2.2.1
  have A : ∀ q k, ¬ (q = 32 ∧ k = 12) → ¬ (q = 72 ∧ k = fs.length) → (ak_atC hc fs.length f.pc).1 q k = hc.1 q k := fun q k a b => ak_atC_o a b
  have A12 := ak_atC_12 (hc := hc) (t := fs.length) (pc := f.pc)
  have A72 := ak_atC_72 (hc := hc) (t := fs.length) (pc := f.pc)
  have A2 : (ak_atC hc fs.length f.pc).2 = hc.2 := rfl
  have etc : ak_tc f.vs = 2 := by rw [fv]; show 0 + (if v2.1 = true then 1 else 0) + (if v.1 = true then 1 else 0) = 2; rw [if_pos v1, if_pos v21]
  have elen : f.vs.length = 2 := by rw [fv]; rfl
  rw [etc] at e3 x2
  rw [elen] at d5 x1
  rw [fv] at V
  obtain ⟨⟨r1, r2, vk2⟩, r3, _, ⟨p1, p2, vk⟩, p3, _⟩ := V
  obtain ⟨r4, r5⟩ := r3 v1
  obtain ⟨p4, p5⟩ := p3 v21
  have tc1 : ak_tc [v2] = 1 := by show 0 + (if v2.1 = true then 1 else 0) = 1; rw [if_pos v21]
  rw [tc1] at r4 r5
  have r1 : hc.1 108 (ak_nV fs + 1) = v.2.1 := r1
  have r2 : hc.2.1 109 (ak_nV fs + 1) = v.2.2 := r2
  have p1 : hc.1 108 (ak_nV fs) = v2.2.1 := p1
  have p2 : hc.2.1 109 (ak_nV fs) = v2.2.2 := p2
  have p4 : hm.1 199 (ak_nT fs) = v2.2.1 := p4
  have p5 : hm.2.1 200 (ak_nT fs) = v2.2.2 := p5
  have gC0 := fun (Q : ak_S → Prop) (X : Nat → ak_S → Prop) (q : ak_MV e 0 (d + 39) (ak_rc c.s ρ1 ρ2) 95 [am_r 32, am_i ((24 : Nat) : Int), am_i (ak_mC c.s c.h0 (ak_T c.s + 3) f.pc)] (ak_atC hc fs.length f.pc) Q (fun _ _ => False)) => ak_o72 (d := d + 39) (o := 24) (X := X) w h2 (fun z => absurd z (by decide)) (fun _ z => absurd z (by decide)) (fun _ z => absurd z (by decide)) (fun _ _ => q) (fun z => absurd z (by decide)) (fun z => absurd z (by decide))
  generalize ak_atC hc fs.length f.pc = hA at A A12 A72 A2 gC0
  obtain ⟨hP, eP⟩ : ∃ hP : ak_S, hP = ak_szC (ak_szC hA (ak_nV fs + 1)) (ak_nV fs) := ⟨_, rfl⟩
  have PO0 : ∀ q k, ¬ (q = 32 ∧ k = 10) → hP.1 q k = hA.1 q k := fun q k a => by rw [eP]; exact (ak_szC_o a).trans (ak_szC_o a)
  have P10 : hP.1 32 10 = (ak_nV fs : Int) := by rw [eP]; exact ak_szC_v
  have P2 : hP.2 = hc.2 := by rw [eP]; exact A2
  have PO : ∀ q k, ¬ (q = 32 ∧ (k = 10 ∨ k = 12)) → ¬ (q = 72 ∧ k = fs.length) → hP.1 q k = hc.1 q k := fun q k a b => (PO0 q k (by omega)).trans (A q k (by omega) b)
  have P12 : hP.1 32 12 = (fs.length : Int) := (PO0 _ _ (by omega)).trans A12
  have P72 : hP.1 72 fs.length = ((f.pc + 1 : Nat) : Int) := (PO0 _ _ (by omega)).trans A72
  have g293 := fun (Q : ak_S → Prop) (X : Nat → ak_S → Prop) q => ak_293_27 (e := e) (ρ := ρ) (X := X) (Q := Q) (d := d + 39) (T0 := ak_nT fs + 1) y18 ((yO 114 (by omega) (by omega)).trans h114) ((ak_poM_o (by omega)).trans e3) (by omega) q
  by_cases hs3 : v2.2.1 = 2 ∧ v.2.1 = 2
  · obtain ⟨hs2, hs4⟩ := hs3
    have hw := vk.2.1 hs2
    have hw2 := vk2.2.1 hs4
    obtain ⟨o, eo⟩ : ∃ o : Nat, v2.2.2 = (o : Int) := ⟨v2.2.2.toNat, by omega⟩
    refine ak_dn_alt (op := 3) (x := v.2.2) (sv := 0) (wv := 0) (sv' := 0) (wv' := 0) (o := o) w fj hk hy fv (by omega) cnt K PO P10 P12 P72 P2 (by omega) (by decide) (fun _ => hw2) (fun z => absurd z (by decide)) (fun rr hc2 run Q X q => gC0 Q X (am_c95c (d := d + 37) (s := v2.2.1) (w := v2.2.2) (s2 := v.2.1) (w2 := v.2.2) hs ((A _ _ (by omega) (by omega)).trans d5) (by omega) eP ((A _ _ (by omega) (by omega)).trans p1) (by rw [A2]; exact p2) ((A _ _ (by omega) (by omega)).trans r1) (by rw [A2]; exact r2) ((A _ _ (by omega) (by omega)).trans hO2) hO1 vk vk2 (by decide) (fun z => absurd ⟨hs2, hs4⟩ z) (fun _ _ => ?_))) (fun rr hm2 run Q X q => g293 Q X (am_m296 (d := d + 37) (T0 := ak_nT fs) (q7 := 27) (s2 := v.2.1) (w2 := v.2.2) (O := g.O) y18 ((yO 114 (by omega) (by omega)).trans h114) (by decide) (by rw [if_neg (by decide)]; exact (ak_poM_o (by omega)).trans e3) (by omega) ((ak_poM_o (by omega)).trans p4) p5 (fun _ => ⟨(ak_poM_o (by omega)).trans r4, r5⟩) hO1 vk (fun _ => vk2) (fun z => absurd z (by omega)) (fun _ _ => ?_)))
    · rw [eo]
      refine run _ _ ?_
      exact q
    · rw [show (27 : Int) - 24 = 3 from rfl, if_pos (show (27 : Int) ≤ 27 by decide), if_neg (show ¬ (27 : Int) = 24 by decide), if_neg (show ¬ (27 : Int) = 24 by decide), if_neg (show ¬ (27 : Int) = 25 by decide), eo]
      refine run _ _ ?_
      exact q
  · exact ak_dn_no w fj hk hy (by omega) cnt PO P12 P2 (fun Q X q => gC0 Q X (am_c95c (d := d + 37) (s := v2.2.1) (w := v2.2.2) (s2 := v.2.1) (w2 := v.2.2) hs ((A _ _ (by omega) (by omega)).trans d5) (by omega) eP ((A _ _ (by omega) (by omega)).trans p1) (by rw [A2]; exact p2) ((A _ _ (by omega) (by omega)).trans r1) (by rw [A2]; exact r2) ((A _ _ (by omega) (by omega)).trans hO2) hO1 vk vk2 (by decide) (fun _ => q) (fun z z2 => absurd ⟨z, z2⟩ hs3))) (fun Q X q => g293 Q X (am_m296 (d := d + 37) (T0 := ak_nT fs) (q7 := 27) (s2 := v.2.1) (w2 := v.2.2) (O := g.O) y18 ((yO 114 (by omega) (by omega)).trans h114) (by decide) (by rw [if_neg (by decide)]; exact (ak_poM_o (by omega)).trans e3) (by omega) ((ak_poM_o (by omega)).trans p4) p5 (fun _ => ⟨(ak_poM_o (by omega)).trans r4, r5⟩) hO1 vk (fun _ => vk2) (fun _ => q) (fun z z2 => absurd ⟨z, z2 (by decide)⟩ hs3)))
theorem ak_dn_28 (w : ak_RN c g (f :: fs) hc hm) (fj : f.js = j :: r) (hk : j.k = 4) (hy : j.n = (y : Int)) (fv : f.vs = [v, v2]) (v1 : v.1 = true) (v21 : v2.1 = true) (h114 : ak_mM c.us c.m0 114 y = 28) (h2 : ak_mC c.s c.h0 (ak_T c.s + 2) f.pc = ((25 : Nat) : Int))  (cnt : hm.1 110 109 < 1000000000) (K : ak_K (ak_mC c.s c.h0) (ak_mM c.us c.m0) (ak_T c.s) c.us (g.mt f.r + 40 * g.lv f.r) r (f.pc + 1) []) : ak_OUT e d ρ1 ρ2 ρ c (ak_Phi hm (f :: fs)) W hc hm := by
  obtain ⟨hs, l60, fU, f5, φ5, sp0, F, L, J0, V, K0, ⟨l1, l2, l3⟩, ⟨d2, d3, d4, d5, o1, o2⟩, ⟨e1, e2, e3, e4, e5, o3⟩, ⟨x1, x2, x3, x4⟩, d72, lt1⟩ := ak_tp w
  obtain ⟨b1, b2, b3, b4⟩ := ak_cd sp0 h2 (by decide)
  obtain ⟨y18, yq⟩ := ak_nde (q0 := 114) (y := y) sp0 (by omega) (by rw [h114]; decide)
  have yO : ∀ q, 114 ≤ q → q ≤ 120 → (ak_poM hm (ak_nJ fs + 1 + r.length)).1 q y = ak_mM c.us c.m0 q y := fun q a b => (ak_poM_o (by omega)).trans (yq q a b)
  obtain ⟨hO1, hO2, hO3⟩ := sp0.2.2.1.2.2.2.2.1
  have A : ∀ q k, ¬ (q = 32 ∧ k = 12) → ¬ (q = 72 ∧ k = fs.length) → (ak_atC hc fs.length f.pc).1 q k = hc.1 q k := fun q k a b => ak_atC_o a b
  have A12 := ak_atC_12 (hc := hc) (t := fs.length) (pc := f.pc)
  have A72 := ak_atC_72 (hc := hc) (t := fs.length) (pc := f.pc)
  have A2 : (ak_atC hc fs.length f.pc).2 = hc.2 := rfl
  have etc : ak_tc f.vs = 2 := by rw [fv]; show 0 + (if v2.1 = true then 1 else 0) + (if v.1 = true then 1 else 0) = 2; rw [if_pos v1, if_pos v21]
  have elen : f.vs.length = 2 := by rw [fv]; rfl
  rw [etc] at e3 x2
  rw [elen] at d5 x1
  rw [fv] at V
  obtain ⟨⟨r1, r2, vk2⟩, r3, _, ⟨p1, p2, vk⟩, p3, _⟩ := V
  obtain ⟨r4, r5⟩ := r3 v1
  obtain ⟨p4, p5⟩ := p3 v21
  have tc1 : ak_tc [v2] = 1 := by show 0 + (if v2.1 = true then 1 else 0) = 1; rw [if_pos v21]
  rw [tc1] at r4 r5
  have r1 : hc.1 108 (ak_nV fs + 1) = v.2.1 := r1
  have r2 : hc.2.1 109 (ak_nV fs + 1) = v.2.2 := r2
  have p1 : hc.1 108 (ak_nV fs) = v2.2.1 := p1
  have p2 : hc.2.1 109 (ak_nV fs) = v2.2.2 := p2
  have p4 : hm.1 199 (ak_nT fs) = v2.2.1 := p4
  have p5 : hm.2.1 200 (ak_nT fs) = v2.2.2 := p5
  have gC0 := fun (Q : ak_S → Prop) (X : Nat → ak_S → Prop) (q : ak_MV e 0 (d + 39) (ak_rc c.s ρ1 ρ2) 95 [am_r 32, am_i ((25 : Nat) : Int), am_i (ak_mC c.s c.h0 (ak_T c.s + 3) f.pc)] (ak_atC hc fs.length f.pc) Q (fun _ _ => False)) => ak_o72 (d := d + 39) (o := 25) (X := X) w h2 (fun z => absurd z (by decide)) (fun _ z => absurd z (by decide)) (fun _ z => absurd z (by decide)) (fun _ _ => q) (fun z => absurd z (by decide)) (fun z => absurd z (by decide))
  generalize ak_atC hc fs.length f.pc = hA at A A12 A72 A2 gC0
  obtain ⟨hP, eP⟩ : ∃ hP : ak_S, hP = ak_szC (ak_szC hA (ak_nV fs + 1)) (ak_nV fs) := ⟨_, rfl⟩
  have PO0 : ∀ q k, ¬ (q = 32 ∧ k = 10) → hP.1 q k = hA.1 q k := fun q k a => by rw [eP]; exact (ak_szC_o a).trans (ak_szC_o a)
  have P10 : hP.1 32 10 = (ak_nV fs : Int) := by rw [eP]; exact ak_szC_v
  have P2 : hP.2 = hc.2 := by rw [eP]; exact A2
  have PO : ∀ q k, ¬ (q = 32 ∧ (k = 10 ∨ k = 12)) → ¬ (q = 72 ∧ k = fs.length) → hP.1 q k = hc.1 q k := fun q k a b => (PO0 q k (by omega)).trans (A q k (by omega) b)
  have P12 : hP.1 32 12 = (fs.length : Int) := (PO0 _ _ (by omega)).trans A12
  have P72 : hP.1 72 fs.length = ((f.pc + 1 : Nat) : Int) := (PO0 _ _ (by omega)).trans A72
  have g293 := fun (Q : ak_S → Prop) (X : Nat → ak_S → Prop) q => ak_293_28 (e := e) (ρ := ρ) (X := X) (Q := Q) (d := d + 39) (T0 := ak_nT fs + 1) y18 ((yO 114 (by omega) (by omega)).trans h114) ((ak_poM_o (by omega)).trans e3) (by omega) q
  by_cases hs3 : v2.2.1 = 2 ∧ v.2.1 = 2
  · obtain ⟨hs2, hs4⟩ := hs3
    have hw := vk.2.1 hs2
    have hw2 := vk2.2.1 hs4
    obtain ⟨o, eo⟩ : ∃ o : Nat, v2.2.2 = (o : Int) := ⟨v2.2.2.toNat, by omega⟩
    refine ak_dn_alt (op := 4) (x := v.2.2) (sv := 0) (wv := 0) (sv' := 0) (wv' := 0) (o := o) w fj hk hy fv (by omega) cnt K PO P10 P12 P72 P2 (by omega) (by decide) (fun _ => hw2) (fun z => absurd z (by decide)) (fun rr hc2 run Q X q => gC0 Q X (am_c95c (d := d + 37) (s := v2.2.1) (w := v2.2.2) (s2 := v.2.1) (w2 := v.2.2) hs ((A _ _ (by omega) (by omega)).trans d5) (by omega) eP ((A _ _ (by omega) (by omega)).trans p1) (by rw [A2]; exact p2) ((A _ _ (by omega) (by omega)).trans r1) (by rw [A2]; exact r2) ((A _ _ (by omega) (by omega)).trans hO2) hO1 vk vk2 (by decide) (fun z => absurd ⟨hs2, hs4⟩ z) (fun _ _ => ?_))) (fun rr hm2 run Q X q => g293 Q X (am_m296 (d := d + 37) (T0 := ak_nT fs) (q7 := 28) (s2 := v.2.1) (w2 := v.2.2) (O := g.O) y18 ((yO 114 (by omega) (by omega)).trans h114) (by decide) (by rw [if_neg (by decide)]; exact (ak_poM_o (by omega)).trans e3) (by omega) ((ak_poM_o (by omega)).trans p4) p5 (fun _ => ⟨(ak_poM_o (by omega)).trans r4, r5⟩) hO1 vk (fun _ => vk2) (fun z => absurd z (by omega)) (fun _ _ => ?_)))
    · rw [eo]
      refine run _ _ ?_
      exact q
    · rw [show (28 : Int) - 24 = 4 from rfl, if_pos (show (27 : Int) ≤ 28 by decide), if_neg (show ¬ (28 : Int) = 24 by decide), if_neg (show ¬ (28 : Int) = 24 by decide), if_neg (show ¬ (28 : Int) = 25 by decide), eo]
      refine run _ _ ?_
      exact q
  · exact ak_dn_no w fj hk hy (by omega) cnt PO P12 P2 (fun Q X q => gC0 Q X (am_c95c (d := d + 37) (s := v2.2.1) (w := v2.2.2) (s2 := v.2.1) (w2 := v.2.2) hs ((A _ _ (by omega) (by omega)).trans d5) (by omega) eP ((A _ _ (by omega) (by omega)).trans p1) (by rw [A2]; exact p2) ((A _ _ (by omega) (by omega)).trans r1) (by rw [A2]; exact r2) ((A _ _ (by omega) (by omega)).trans hO2) hO1 vk vk2 (by decide) (fun _ => q) (fun z z2 => absurd ⟨z, z2⟩ hs3))) (fun Q X q => g293 Q X (am_m296 (d := d + 37) (T0 := ak_nT fs) (q7 := 28) (s2 := v.2.1) (w2 := v.2.2) (O := g.O) y18 ((yO 114 (by omega) (by omega)).trans h114) (by decide) (by rw [if_neg (by decide)]; exact (ak_poM_o (by omega)).trans e3) (by omega) ((ak_poM_o (by omega)).trans p4) p5 (fun _ => ⟨(ak_poM_o (by omega)).trans r4, r5⟩) hO1 vk (fun _ => vk2) (fun _ => q) (fun z z2 => absurd ⟨z, z2 (by decide)⟩ hs3)))
end ALT3
