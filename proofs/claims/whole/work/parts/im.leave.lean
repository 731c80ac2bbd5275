/-! the run: a frame ends; a guard is left -/
section LEV
variable {e : ak_X3} {d ρ1 ρ2 W y n N gd c2 : Nat} {ρ : List Nat} {c : ak_Cx} {g : ak_Gh} {fs : List ak_Fr} {f : ak_Fr} {hc hm : ak_S} {j : ak_Jb} {r : List ak_Jb} {v : Int} {X : Nat → ak_S → Prop} {Q : ak_S → Prop}
theorem ak_st_end (w : ak_RN c g (f :: fs) hc hm) (fj : f.js = []) (fv : f.vs = []) (h2 : ak_mC c.s c.h0 (ak_T c.s + 2) f.pc = 34) : ak_OUT e d ρ1 ρ2 ρ c (ak_Phi hm (f :: fs)) W hc hm := by
  obtain ⟨hs, l60, fU, f5, φ5, sp0, F, L, J0, V, K0, ⟨l1, l2, l3⟩, ⟨d2, d3, d4, d5, o1, o2⟩, ⟨e1, e2, e3, e4, e5, o3⟩, ⟨x1, x2, x3, x4⟩, d72, lt1⟩ := ak_tp w
  obtain ⟨b1, b2, b3, b4⟩ := ak_cd sp0 h2 (by decide)
  rw [fj] at d4
  have d4 : hc.1 77 4 = (ak_nG fs : Int) := d4
  have A : ∀ q k, ¬ (q = 32 ∧ k = 12) → ¬ (q = 72 ∧ k = fs.length) → (ak_atC hc fs.length f.pc).1 q k = hc.1 q k := fun q k a b => ak_atC_o a b
  have A2 : (ak_atC hc fs.length f.pc).2 = hc.2 := rfl
  have gC0 : ∀ hcX, ak_cgo e (d + 30) c.s ρ1 ρ2 54 [am_r 77, am_i 2, am_i 0, am_i 0, am_l 0, am_i (fs.length : Int)] (ak_atC hc fs.length f.pc) hcX → ak_cgo e (d + 40) c.s ρ1 ρ2 72 [am_r 32] hc hcX := fun hcX h Q X q => by
    refine ak_o72 (d := d + 39) (o := 34) w h2 (fun z => absurd z (by decide)) (fun z z2 => absurd z2 (by decide)) (fun z z2 => absurd z2 (by decide)) (fun z z2 => absurd z2 (by decide)) (fun z z2 => absurd z2 (by decide)) (fun _ => ?_)
    refine ak_MV_of (Nat.le_of_ble_eq_true rfl) (am_k97_0 hs ⟨trivial, fun z => absurd z (by decide), fun z => absurd z (by decide), fun z => absurd z (by decide), fun _ => ?_, fun z => absurd z (by decide), fun z => absurd z (by decide), fun z => absurd z (by decide), trivial⟩)
    rw [ak_atC_12]
    exact ak_MV_deep (show d + 30 ≤ d + 38 by omega) (h _ _ q)
  generalize ak_atC hc fs.length f.pc = hcS at A A2 gC0
  have gl := (ak_gle_refl w).2.2
  have hsub : ∀ y, y ∈ ak_rms fs → y ∈ ak_rms (f :: fs) := fun y h => by simp [ak_rms] at h ⊢; exact Or.inr h
  obtain ⟨hcX, hc', hm', q1, q2, q3, q4, q5, q6⟩ := ak_endF (e := e) (d := d) (ρ1 := ρ1) (ρ2 := ρ2) (ρ := ρ) (hcS := hcS) hs w (by omega) fj fv (ak_SP_fr sp0 (fun q k h => ⟨A q k (by unfold ak_stC at h; omega) (by unfold ak_stC at h; omega), by rw [A2]⟩) (fun _ _ _ => ⟨rfl, rfl⟩)) (ak_F0_fr F (fun _ _ => rfl) fU rfl (fun q a b h1 _ => A q _ (by omega) (by omega)) ((A _ _ (by omega) (by omega)).trans F.1.2.2.2.1) (A _ _ (by omega) (by omega)) rfl (fun _ _ _ => rfl))
    (ak_LO_kp ⟨Nat.le_refl _, Nat.le_refl _, fun y hy => gl y (hsub y hy)⟩ L (fun q k h => A q k (by omega) (by omega)) (fun q k h => by rw [A2]) (fun y hy => ⟨A _ _ (by omega) (by omega), A _ _ (by omega) (by omega), by rw [A2]⟩) (fun _ _ _ => rfl) (fun _ _ _ => rfl)) ((A _ _ (by omega) (by omega)).trans d2) (by
      rw [A 69 8 (by omega) (by omega), d3]
      exact (ak_nH_fr (fun k _ => A 76 k (by omega) (by omega))).symm) ((A _ _ (by omega) (by omega)).trans d4) ((A _ _ (by omega) (by omega)).trans o1)
  rcases q6 with ⟨g2', fs', h1, h2x, h3, h4⟩ | ⟨o, h⟩
  · refine Or.inl ⟨1, g2', fs', hc', hm', h1, h2x, ak_turnU hs (by omega) (gC0 _ q1) q2 q3, q4, ?_, fun h => absurd h (by decide), q5.trans (by rw [A2]), fun q a b => by rw [h4 q (Or.inr ⟨a, b⟩)]; omega⟩
    unfold ak_Phi
    rw [h4 104 (Or.inl rfl)]
    omega
  · refine Or.inr ⟨1, hc', hm', o, h, ?_, ak_turnU hs (by omega) (gC0 _ q1) q2 q3, q4, q5.trans (by rw [A2])⟩
    unfold ak_Phi
    show 1 ≤ _ + (ak_pcs fs + (9100 - f.pc) + 9101 * ak_gw f.js)
    omega
/-- a guard or an on is left -/
theorem ak_st_leave (w : ak_RN c g (f :: fs) hc hm) (fj : f.js = j :: r) (hk : j.k = 9 ∨ j.k = 10) (hy : j.n = (y : Int)) (fv : f.vs = []) (h114 : ak_mM c.us c.m0 114 y = 35) (hw : j.w < 500) (h2 : ak_mC c.s c.h0 (ak_T c.s + 2) f.pc = 37) (h3 : ak_mC c.s c.h0 (ak_T c.s + 3) f.pc = (j.w : Int)) (ES : ak_ES (ak_mC c.s c.h0) (ak_mM c.us c.m0) (ak_T c.s) c.us (g.mt f.r + 40 * g.lv f.r) (ak_K (ak_mC c.s c.h0) (ak_mM c.us c.m0) (ak_T c.s) c.us (g.mt f.r + 40 * g.lv f.r) r) r y j.w) : ak_OUT e d ρ1 ρ2 ρ c (ak_Phi hm (f :: fs)) W hc hm := by
  obtain ⟨hs, l60, fU, f5, φ5, sp0, F, L, J0, V, K0, ⟨l1, l2, l3⟩, ⟨d2, d3, d4, d5, o1, o2⟩, ⟨e1, e2, e3, e4, e5, o3⟩, ⟨x1, x2, x3, x4⟩, d72, lt1⟩ := ak_tp w
  obtain ⟨t1, t2, t3, t4, t5, t6⟩ := ak_tj w fj
  obtain ⟨b1, b2, b3, b4⟩ := ak_cd sp0 h2 (by decide)
  obtain ⟨y18, yq⟩ := ak_nde (q0 := 114) (y := y) sp0 (by omega) (by rw [h114]; decide)
  have hT := ak_T_bd hs
  have r5 := ak_cx (q := ak_T c.s + 5) (k := j.w) sp0 (by omega)
  have r6 := ak_cx (q := ak_T c.s + 6) (k := j.w) sp0 (by omega)
  have etc : ak_tc f.vs = 0 := by rw [fv]; rfl
  have elen : f.vs.length = 0 := by rw [fv]; rfl
  rw [etc] at e3 x2
  rw [elen] at d5 x1
  rw [fj] at J0 d4 e5 l3
  have gc1 : ak_gc (j :: r) = ak_gc r + 1 := by show ak_gc r + (if 9 ≤ j.k then 1 else 0) = _; rw [if_pos (by omega)]
  have kc1 : ak_kc (j :: r) = ak_kc r := by show ak_kc r + (if j.k = 11 then 1 else 0) = _; rw [if_neg (by omega)]; rfl
  have gw1 : ak_gw r + 1 ≤ ak_gw (j :: r) := by
    show ak_gw r + 1 ≤ ak_gw r + (if j.k = 9 then 2 else if j.k = 10 then 1 else 0)
    rcases hk with hk | hk
    · rw [if_pos hk]; omega
    · rw [if_neg (by omega), if_pos hk]; omega
  rw [gc1] at d4 l3
  rw [kc1] at e5
  have hgx := ak_nG_le L
  have hkx := ak_nK_le (fs := fs)
  have hkc := ak_kc_le (l := r)
  obtain ⟨_, JG, _, _⟩ := J0
  obtain ⟨⟨g78, g79, g80⟩, _, jb⟩ := JG (by omega)
  have tb : 0 ≤ (fs.length : Int) ∧ (fs.length : Int) < 60 := by omega
  have yb : 0 ≤ (y : Int) ∧ (y : Int) < 18000 := by omega
  have A : ∀ q k, ¬ (q = 32 ∧ k = 12) → ¬ (q = 72 ∧ k = fs.length) → (ak_atC hc fs.length f.pc).1 q k = hc.1 q k := fun q k a b => ak_atC_o a b
  have A12 := ak_atC_12 (hc := hc) (t := fs.length) (pc := f.pc)
  have A2 : (ak_atC hc fs.length f.pc).2 = hc.2 := rfl
  have gC0 : ∀ (Q : ak_S → Prop) (X : Nat → ak_S → Prop), ak_MV e 0 (d + 38) (ak_rc c.s ρ1 ρ2) 99 [am_r 32, am_i (j.w : Int)] (ak_atC hc fs.length f.pc) Q (fun _ _ => False) → ak_MV e 0 (d + 40) (ak_rc c.s ρ1 ρ2) 72 [am_r 32] hc Q X := fun Q X q => by
    refine ak_o72 (d := d + 39) (o := 37) w h2 (fun z => absurd z (by decide)) (fun z z2 => absurd z2 (by decide)) (fun z z2 => absurd z2 (by decide)) (fun z z2 => absurd z2 (by decide)) (fun z z2 => absurd z2 (by decide)) (fun _ => ?_)
    rw [h3]
    exact ak_MV_of (Nat.le_of_ble_eq_true rfl) (am_k97_0 hs ⟨trivial, fun z => absurd z (by decide), fun z => absurd z (by decide), fun z => absurd z (by decide), fun z => absurd z (by decide), fun z => absurd z (by decide), fun z => absurd z (by decide), fun _ => q, trivial⟩)
  generalize ak_atC hc fs.length f.pc = hA at A A12 A2 gC0
  have gM0 : ∀ (Q : ak_S → Prop) (X : Nat → ak_S → Prop), ak_MI e 1 (d + 40) ρ 278 [am_r 110, am_i (y : Int)] (am_up (ak_poM hm (ak_nJ fs + 1 + r.length)).1 110 133 0, (ak_poM hm (ak_nJ fs + 1 + r.length)).2) (fun _ h15 => ak_W0 e 1 (d + 40) 298 ρ 0 [some (am_r 110), none, none] [] h15 (ak_qv Q X)) (fun _ _ => False) → ak_W0 e 1 (d + 40) 298 ρ 0 [some (am_r 110), none, none] [] hm (ak_qv Q X) := fun Q X q => by
    refine am_k298_0 ?_
    rw [t1, show am_w32 (((ak_nJ fs + 1 + r.length + 1 : Nat) : Int) - 1) = ((ak_nJ fs + 1 + r.length : Nat) : Int) from by rw [ak_w _ (by omega)]; omega, ak_natn, t3, t4, hy]
    have hb : 0 ≤ ((ak_nJ fs + 1 + r.length : Nat) : Int) ∧ ((ak_nJ fs + 1 + r.length : Nat) : Int) < 370000 := by omega
    exact ⟨fun z => absurd z (by omega), fun _ => ⟨fun z => absurd z (by omega), fun _ => ⟨hb, hb, trivial, fun z => absurd z (by omega), fun z => absurd z (by omega), fun z => absurd z (by omega), fun z => absurd z (by omega), fun z => absurd z (by omega), fun z => absurd z (by omega), fun z => absurd z (by omega), fun z => absurd z (by omega), fun z => absurd z (by omega), fun _ => q, fun _ => q, trivial⟩⟩⟩
  have BO : ∀ q k, ¬ (q = 110 ∧ (k = 132 ∨ k = 133)) → ((am_up (ak_poM hm (ak_nJ fs + 1 + r.length)).1 110 133 0, (ak_poM hm (ak_nJ fs + 1 + r.length)).2) : ak_S).1 q k = hm.1 q k := fun q k a => (ak_up_out1 (by omega)).trans (ak_poM_o (by omega))
  have B133 : ((am_up (ak_poM hm (ak_nJ fs + 1 + r.length)).1 110 133 0, (ak_poM hm (ak_nJ fs + 1 + r.length)).2) : ak_S).1 110 133 = 0 := ak_up_at1
  have B132 : ((am_up (ak_poM hm (ak_nJ fs + 1 + r.length)).1 110 133 0, (ak_poM hm (ak_nJ fs + 1 + r.length)).2) : ak_S).1 110 132 = ((ak_nJ fs + 1 + r.length : Nat) : Int) := (ak_up_out1 (by omega)).trans ak_poM_v
  have B2 : ((am_up (ak_poM hm (ak_nJ fs + 1 + r.length)).1 110 133 0, (ak_poM hm (ak_nJ fs + 1 + r.length)).2) : ak_S).2 = hm.2 := rfl
  generalize ((am_up (ak_poM hm (ak_nJ fs + 1 + r.length)).1 110 133 0, (ak_poM hm (ak_nJ fs + 1 + r.length)).2) : ak_S) = hB at BO B133 B132 B2 gM0
  rcases ES with ⟨c9, z1, z2, z3, K⟩ | ⟨z1, c2, c3, G, j1, z2, z3, z4, z5, z6, K⟩
  · -- nothing behind it
    have n1 : am_w32 (((ak_nG fs + (ak_gc r + 1) : Nat) : Int) - 1) = ((ak_nG fs + ak_gc r : Nat) : Int) := by rw [ak_w _ (by omega)]; omega
    have nif : (if 0 < ((ak_nG fs + ak_gc r : Nat) : Int) then ((ak_nG fs + ak_gc r : Nat) : Int) else 0) = ((ak_nG fs + ak_gc r : Nat) : Int) := by split <;> omega
    have gC : ak_cgo e (d + 40) c.s ρ1 ρ2 72 [am_r 32] hc (am_up (am_up hA.1 72 fs.length (c9 : Int)) 77 4 ((ak_nG fs + ak_gc r : Nat) : Int), hA.2) := fun Q X q => gC0 Q X (by
      refine ak_MV_of (Nat.le_of_ble_eq_true rfl) (am_k99_0 hs ?_)
      rw [ak_natn, A _ _ (by omega) (by omega), r5, z2, A _ j.w (by omega) (by omega), r6, z3, A12, ak_natn, A 77 4 (by omega) (by omega), d4, n1, nif]
      exact ⟨by omega, fun _ => ⟨by omega, tb, q⟩, fun z => absurd z (by decide)⟩)
    clear n1 nif
    have CO : ∀ q k, ¬ (q = 32 ∧ k = 12) → ¬ (q = 72 ∧ k = fs.length) → ¬ (q = 77 ∧ k = 4) → ((am_up (am_up hA.1 72 fs.length (c9 : Int)) 77 4 ((ak_nG fs + ak_gc r : Nat) : Int), hA.2) : ak_S).1 q k = hc.1 q k := fun q k a b c' => (ak_up_out1 c').trans ((ak_up_out b).trans (A q k a b))
    have C72 : ((am_up (am_up hA.1 72 fs.length (c9 : Int)) 77 4 ((ak_nG fs + ak_gc r : Nat) : Int), hA.2) : ak_S).1 72 fs.length = (c9 : Int) := (ak_up_out1 (by omega)).trans ak_up_at
    have C4 : ((am_up (am_up hA.1 72 fs.length (c9 : Int)) 77 4 ((ak_nG fs + ak_gc r : Nat) : Int), hA.2) : ak_S).1 77 4 = ((ak_nG fs + ak_gc r : Nat) : Int) := ak_up_at1
    have C2 : ((am_up (am_up hA.1 72 fs.length (c9 : Int)) 77 4 ((ak_nG fs + ak_gc r : Nat) : Int), hA.2) : ak_S).2 = hc.2 := A2
    generalize ((am_up (am_up hA.1 72 fs.length (c9 : Int)) 77 4 ((ak_nG fs + ak_gc r : Nat) : Int), hA.2) : ak_S) = hcF at gC CO C72 C4 C2
    have gM : ak_mgo e (d + 40) ρ hm hB := fun Q X q => gM0 Q X (ak_MI_of (Nat.le_of_ble_eq_true rfl) (am_k278_0 (by
      rw [ak_natn, BO 118 y (by omega), yq 118 (by omega) (by omega)]
      exact ⟨yb, fun z => absurd z z1, fun _ => ⟨Or.inl rfl, q⟩⟩)))
    have w' := ak_RN_any (vs' := []) (pc' := c9) (js' := r) w (ak_SP_fr sp0 (fun q k h => ⟨CO q k (by unfold ak_stC at h; omega) (by unfold ak_stC at h; omega) (by unfold ak_stC at h; omega), by rw [C2]⟩) (fun q k h => ⟨BO q k (by unfold ak_stM at h; omega), by rw [B2]⟩)) (fun q k h => CO q k (by omega) (by omega) (by omega)) (fun q k h => by rw [C2]) (fun y hy => ⟨CO _ _ (by omega) (by omega) (by omega), CO _ _ (by omega) (by omega) (by omega), by rw [C2]⟩)
      (fun q k h => BO q k (by omega)) (fun q k h => by rw [B2]) (by rw [CO 73 _ (by omega) (by omega) (by omega), BO 183 _ (by omega)]; exact F.1.2.2.2.1) C72 C4 ((CO _ _ (by omega) (by omega) (by omega)).trans d5) ((CO _ _ (by omega) (by omega) (by omega)).trans o1) ((CO _ _ (by omega) (by omega) (by omega)).trans o2) ((BO _ _ (by omega)).trans o3) ((BO _ _ (by omega)).trans e3) B132 ((BO _ _ (by omega)).trans e5)
      (ak_JS_fr (Nat.le_refl _) (Nat.le_refl _) (fun _ _ => rfl) t6 (fun q k a b _ => ⟨CO q k (by omega) (by omega) (by omega), by rw [C2]⟩) (fun q k a b _ => BO q k (by omega)) (fun q k a b _ => ⟨BO q k (by omega), by rw [B2]⟩)) trivial K ⟨by omega, by show 0 ≤ 151; decide, by omega⟩
    refine ak_OUT1 w w' (by simp) gC gM ?_ (by rw [BO _ _ (by omega)]; exact Int.le_refl _) (by rw [C2]) (fun q a b => by rw [BO 110 q (by omega)]; omega)
    show ak_pcs fs + (9100 - c9) + 9101 * ak_gw r + 1 ≤ ak_pcs fs + (9100 - f.pc) + 9101 * ak_gw f.js
    rw [fj]
    omega
  · -- what comes behind it
    have DO : ∀ q k, ¬ (78 ≤ q ∧ q ≤ 86 ∧ k = ak_nG fs + ak_gc r ∧ q ≠ 79 ∧ q ≠ 80 ∧ q ≠ 81) → ¬ (q = 77 ∧ k = 10) → (ak_beC hA (ak_nG fs + ak_gc r)).1 q k = hA.1 q k := fun q k a b => by
      unfold ak_beC
      exact (ak_up_out1 b).trans ((ak_up_out (by omega)).trans ((ak_up_out (by omega)).trans ((ak_up_out (by omega)).trans ((ak_up_out (by omega)).trans (ak_up_out (by omega))))))
    have DJ : ∀ q k, ¬ (q = 85 ∧ k = ak_nG fs + ak_gc r) → (ak_beC hA (ak_nG fs + ak_gc r)).2.1 q k = hA.2.1 q k := fun q k a => ak_up_out a
    have D22 : (ak_beC hA (ak_nG fs + ak_gc r)).2.2 = hA.2.2 := rfl
    have Dv : (ak_beC hA (ak_nG fs + ak_gc r)).1 78 (ak_nG fs + ak_gc r) = 2 ∧ (ak_beC hA (ak_nG fs + ak_gc r)).1 82 (ak_nG fs + ak_gc r) = hA.1 77 10 ∧ (ak_beC hA (ak_nG fs + ak_gc r)).1 77 10 = 0 := by
      unfold ak_beC
      simp [am_up]
    have go55 : ∀ (Q : ak_S → Prop) (X : Nat → ak_S → Prop), Q (ak_beC hA (ak_nG fs + ak_gc r)) → ak_MV e 0 (d + 37) (ak_rc c.s ρ1 ρ2) 55 [am_r 77] hA Q X := fun Q X q => am_s55 (d := d + 36) (n := ak_nG fs + ak_gc r) ((A _ _ (by omega) (by omega)).trans d4) (by omega) q
    generalize ak_beC hA (ak_nG fs + ak_gc r) = hD at DO DJ D22 Dv go55
    obtain ⟨D78, D82, D77⟩ := Dv
    have a77 : hA.1 77 10 = 0 := (A _ _ (by omega) (by omega)).trans o2
    rw [a77] at D82
    have gC : ak_cgo e (d + 40) c.s ρ1 ρ2 72 [am_r 32] hc (am_up hD.1 72 fs.length (c2 : Int), hD.2) := fun Q X q => gC0 Q X (by
      refine ak_MV_of (Nat.le_of_ble_eq_true rfl) (am_k99_0 hs ?_)
      rw [ak_natn, A _ _ (by omega) (by omega), r5, z2]
      refine ⟨by omega, fun z => absurd z (by omega), fun _ => go55 _ _ ?_⟩
      rw [DO 32 12 (by omega) (by omega), A12, ak_natn, DO _ j.w (by omega) (by omega), A _ j.w (by omega) (by omega), r5, z2]
      exact ⟨by omega, tb, q⟩)
    have CO : ∀ q k, ¬ (q = 32 ∧ k = 12) → ¬ (q = 72 ∧ k = fs.length) → ¬ (78 ≤ q ∧ q ≤ 86 ∧ k = ak_nG fs + ak_gc r ∧ q ≠ 79 ∧ q ≠ 80 ∧ q ≠ 81) → ¬ (q = 77 ∧ k = 10) → ((am_up hD.1 72 fs.length (c2 : Int), hD.2) : ak_S).1 q k = hc.1 q k := fun q k a b c' d' => (ak_up_out1 b).trans ((DO q k c' d').trans (A q k a b))
    have CJ : ∀ q k, ¬ (q = 85 ∧ k = ak_nG fs + ak_gc r) → ((am_up hD.1 72 fs.length (c2 : Int), hD.2) : ak_S).2.1 q k = hc.2.1 q k := fun q k a => (DJ q k a).trans (by rw [A2])
    have C22 : ((am_up hD.1 72 fs.length (c2 : Int), hD.2) : ak_S).2.2 = hc.2.2 := D22.trans (by rw [A2])
    have C72 : ((am_up hD.1 72 fs.length (c2 : Int), hD.2) : ak_S).1 72 fs.length = (c2 : Int) := ak_up_at1
    have C78 : ((am_up hD.1 72 fs.length (c2 : Int), hD.2) : ak_S).1 78 (ak_nG fs + ak_gc r) = 2 := (ak_up_out1 (by omega)).trans D78
    have C82 : ((am_up hD.1 72 fs.length (c2 : Int), hD.2) : ak_S).1 82 (ak_nG fs + ak_gc r) = 0 := (ak_up_out1 (by omega)).trans D82
    have C77 : ((am_up hD.1 72 fs.length (c2 : Int), hD.2) : ak_S).1 77 10 = 0 := (ak_up_out1 (by omega)).trans D77
    generalize ((am_up hD.1 72 fs.length (c2 : Int), hD.2) : ak_S) = hcF at gC CO CJ C22 C72 C78 C82 C77
    -- the other
    have b139 : hB.1 110 139 = ((ak_nK fs + ak_kc r : Nat) : Int) := (BO _ _ (by omega)).trans e5
    have b127 : hB.1 110 127 = (ak_nT fs : Int) := (BO _ _ (by omega)).trans e3
    have KO : ∀ q k, ¬ (205 ≤ q ∧ q ≤ 210 ∧ k = ak_nK fs + ak_kc r) → ¬ (q = 110 ∧ k = 139) → ((am_up (am_up (am_up (am_up (am_up (am_up hB.1 205 (ak_nK fs + ak_kc r) 0) 206 (ak_nK fs + ak_kc r) (hB.1 110 134)) 207 (ak_nK fs + ak_kc r) (hB.1 110 135)) 209 (ak_nK fs + ak_kc r) (hB.1 110 137)) 210 (ak_nK fs + ak_kc r) (hB.1 110 138)) 110 139 ((ak_nK fs + ak_kc r + 1 : Nat) : Int), am_up hB.2.1 208 (ak_nK fs + ak_kc r) (hB.2.1 110 136), hB.2.2) : ak_S).1 q k = hB.1 q k := fun q k a b => (ak_up_out1 b).trans ((ak_up_out (by omega)).trans ((ak_up_out (by omega)).trans ((ak_up_out (by omega)).trans ((ak_up_out (by omega)).trans (ak_up_out (by omega))))))
    have KJ : ∀ q k, ¬ (q = 208 ∧ k = ak_nK fs + ak_kc r) → ((am_up (am_up (am_up (am_up (am_up (am_up hB.1 205 (ak_nK fs + ak_kc r) 0) 206 (ak_nK fs + ak_kc r) (hB.1 110 134)) 207 (ak_nK fs + ak_kc r) (hB.1 110 135)) 209 (ak_nK fs + ak_kc r) (hB.1 110 137)) 210 (ak_nK fs + ak_kc r) (hB.1 110 138)) 110 139 ((ak_nK fs + ak_kc r + 1 : Nat) : Int), am_up hB.2.1 208 (ak_nK fs + ak_kc r) (hB.2.1 110 136), hB.2.2) : ak_S).2.1 q k = hm.2.1 q k := fun q k a => (ak_up_out a).trans (by rw [B2])
    have Kv : ((am_up (am_up (am_up (am_up (am_up (am_up hB.1 205 (ak_nK fs + ak_kc r) 0) 206 (ak_nK fs + ak_kc r) (hB.1 110 134)) 207 (ak_nK fs + ak_kc r) (hB.1 110 135)) 209 (ak_nK fs + ak_kc r) (hB.1 110 137)) 210 (ak_nK fs + ak_kc r) (hB.1 110 138)) 110 139 ((ak_nK fs + ak_kc r + 1 : Nat) : Int), am_up hB.2.1 208 (ak_nK fs + ak_kc r) (hB.2.1 110 136), hB.2.2) : ak_S).1 205 (ak_nK fs + ak_kc r) = 0 ∧ ((am_up (am_up (am_up (am_up (am_up (am_up hB.1 205 (ak_nK fs + ak_kc r) 0) 206 (ak_nK fs + ak_kc r) (hB.1 110 134)) 207 (ak_nK fs + ak_kc r) (hB.1 110 135)) 209 (ak_nK fs + ak_kc r) (hB.1 110 137)) 210 (ak_nK fs + ak_kc r) (hB.1 110 138)) 110 139 ((ak_nK fs + ak_kc r + 1 : Nat) : Int), am_up hB.2.1 208 (ak_nK fs + ak_kc r) (hB.2.1 110 136), hB.2.2) : ak_S).1 110 139 = ((ak_nK fs + ak_kc r + 1 : Nat) : Int) := by simp [am_up]
    have gM1 : ∀ (Q : ak_S → Prop) (X : Nat → ak_S → Prop), ak_MV e 1 (d + 39) ρ 266 [am_r 110, am_i 11, am_i (y : Int), am_i 0, am_i (ak_nT fs : Int)] ((am_up (am_up (am_up (am_up (am_up (am_up hB.1 205 (ak_nK fs + ak_kc r) 0) 206 (ak_nK fs + ak_kc r) (hB.1 110 134)) 207 (ak_nK fs + ak_kc r) (hB.1 110 135)) 209 (ak_nK fs + ak_kc r) (hB.1 110 137)) 210 (ak_nK fs + ak_kc r) (hB.1 110 138)) 110 139 ((ak_nK fs + ak_kc r + 1 : Nat) : Int), am_up hB.2.1 208 (ak_nK fs + ak_kc r) (hB.2.1 110 136), hB.2.2) : ak_S) (fun h1 => (0 ≤ (y : Int) ∧ (y : Int) < (18000 : Int)) ∧ ak_MV e 1 (d + 39) ρ 266 [am_r 110, am_i 2, am_i (h1.1 117 y), am_i 0, am_i 0] h1 (fun h2 => ak_W0 e 1 (d + 40) 298 ρ 0 [some (am_r 110), none, none] [] h2 (ak_qv Q X)) (fun _ _ => False)) (fun _ _ => False) → ak_W0 e 1 (d + 40) 298 ρ 0 [some (am_r 110), none, none] [] hm (ak_qv Q X) := fun Q X q => gM0 Q X (ak_MI_of (Nat.le_of_ble_eq_true rfl) (am_k278_0 (by
      rw [ak_natn, BO 118 y (by omega), yq 118 (by omega) (by omega), b139, ak_natn, B133, b127, ak_wj (show ak_nK fs + ak_kc r < 1000000 by omega)]
      have bk : 0 ≤ ((ak_nK fs + ak_kc r : Nat) : Int) ∧ ((ak_nK fs + ak_kc r : Nat) : Int) < 2000 := by omega
      exact ⟨yb, fun _ => ⟨bk, bk, bk, bk, bk, bk, ak_MV_imp q (fun h1 q => ⟨q.1, ak_MV_imp q.2 (fun h2 q => ⟨Or.inr rfl, q⟩) (fun _ _ q => q)⟩) (fun _ _ q => q)⟩, fun z => absurd z1 z⟩)))
    generalize ((am_up (am_up (am_up (am_up (am_up (am_up hB.1 205 (ak_nK fs + ak_kc r) 0) 206 (ak_nK fs + ak_kc r) (hB.1 110 134)) 207 (ak_nK fs + ak_kc r) (hB.1 110 135)) 209 (ak_nK fs + ak_kc r) (hB.1 110 137)) 210 (ak_nK fs + ak_kc r) (hB.1 110 138)) 110 139 ((ak_nK fs + ak_kc r + 1 : Nat) : Int), am_up hB.2.1 208 (ak_nK fs + ak_kc r) (hB.2.1 110 136), hB.2.2) : ak_S) = hK at KO KJ Kv gM1
    obtain ⟨K205, K139⟩ := Kv
    have K132 : hK.1 110 132 = ((ak_nJ fs + 1 + r.length : Nat) : Int) := (KO _ _ (by omega) (by omega)).trans B132
    have NO : ∀ q k, ¬ (q = 110 ∧ k = 132) → ¬ (201 ≤ q ∧ q ≤ 204 ∧ ak_nJ fs + 1 + r.length ≤ k) → (ak_jbM (ak_jbM hK (ak_nJ fs + 1 + r.length) 11 (y : Int) 0 (ak_nT fs : Int)) (ak_nJ fs + 1 + r.length + 1) 2 (ak_mM c.us c.m0 117 y) 0 0).1 q k = hK.1 q k := fun q k a b => (ak_jb_out a (by omega)).trans (ak_jb_out a (by omega))
    have N132 : (ak_jbM (ak_jbM hK (ak_nJ fs + 1 + r.length) 11 (y : Int) 0 (ak_nT fs : Int)) (ak_nJ fs + 1 + r.length + 1) 2 (ak_mM c.us c.m0 117 y) 0 0).1 110 132 = ((ak_nJ fs + 1 + r.length + 1 + 1 : Nat) : Int) := ak_jb_132
    have N2 : (ak_jbM (ak_jbM hK (ak_nJ fs + 1 + r.length) 11 (y : Int) 0 (ak_nT fs : Int)) (ak_nJ fs + 1 + r.length + 1) 2 (ak_mM c.us c.m0 117 y) 0 0).2 = hK.2 := rfl
    have j11 : (ak_jbM hK (ak_nJ fs + 1 + r.length) 11 (y : Int) 0 (ak_nT fs : Int)).1 201 (ak_nJ fs + 1 + r.length) = 11 ∧ (ak_jbM hK (ak_nJ fs + 1 + r.length) 11 (y : Int) 0 (ak_nT fs : Int)).1 202 (ak_nJ fs + 1 + r.length) = (y : Int) ∧ (ak_jbM hK (ak_nJ fs + 1 + r.length) 11 (y : Int) 0 (ak_nT fs : Int)).1 203 (ak_nJ fs + 1 + r.length) = 0 ∧ (ak_jbM hK (ak_nJ fs + 1 + r.length) 11 (y : Int) 0 (ak_nT fs : Int)).1 204 (ak_nJ fs + 1 + r.length) = (ak_nT fs : Int) := by
      unfold ak_jbM
      simp [am_up]
    have k205 : (ak_jbM hK (ak_nJ fs + 1 + r.length) 11 (y : Int) 0 (ak_nT fs : Int)).1 205 (ak_nK fs + ak_kc r) = 0 := (ak_jb_out (by omega) (by omega)).trans K205
    have JS1 : ak_JS g.O g.B g.φ (f.r :: ak_rms fs) fs.length (ak_nJ fs + 1) (ak_nG fs) (ak_nK fs) (ak_nT fs) hcF (ak_jbM hK (ak_nJ fs + 1 + r.length) 11 (y : Int) 0 (ak_nT fs : Int)) (⟨11, (y : Int), 0, (ak_nT fs : Int), j.w⟩ :: r) := by
      refine ⟨j11, fun _ => ⟨⟨C78, (CO _ _ (by omega) (by omega) (by omega) (by omega)).trans g79, (CO _ _ (by omega) (by omega) (by omega) (by omega)).trans g80⟩, fun z => absurd (show (11 : Nat) = 10 from z) (by decide), rfl⟩, fun _ => ⟨C82.trans k205.symm, Or.inl C82⟩, ak_JS_fr (Nat.le_refl _) (Nat.le_refl _) (fun _ _ => rfl) t6 (fun q k a b h => ⟨CO q k (by omega) (by omega) (by omega) (by omega), CJ q k (by omega)⟩) (fun q k a b h => (ak_jb_out (by omega) (by omega)).trans ((KO q k (by omega) (by omega)).trans (BO q k (by omega)))) (fun q k a b h => ⟨(ak_jb_out (by omega) (by omega)).trans ((KO q k (by omega) (by omega)).trans (BO q k (by omega))), KJ q k (by omega)⟩)⟩
    have JS2 := ak_JS_jb (k := 2) (w := 0) (jn := ak_mM c.us c.m0 117 y) (ja := 0) (jb := 0) JS1 (by decide)
    rw [List.length_cons] at JS2
    have JS2 : ak_JS g.O g.B g.φ (f.r :: ak_rms fs) fs.length (ak_nJ fs + 1) (ak_nG fs) (ak_nK fs) (ak_nT fs) hcF (ak_jbM (ak_jbM hK (ak_nJ fs + 1 + r.length) 11 (y : Int) 0 (ak_nT fs : Int)) (ak_nJ fs + 1 + r.length + 1) 2 (ak_mM c.us c.m0 117 y) 0 0) (⟨2, ak_mM c.us c.m0 117 y, 0, 0, 0⟩ :: ⟨11, (y : Int), 0, (ak_nT fs : Int), j.w⟩ :: r) := JS2
    have gM : ak_mgo e (d + 40) ρ hm (ak_jbM (ak_jbM hK (ak_nJ fs + 1 + r.length) 11 (y : Int) 0 (ak_nT fs : Int)) (ak_nJ fs + 1 + r.length + 1) 2 (ak_mM c.us c.m0 117 y) 0 0) := fun Q X q => gM1 Q X (am_s266 (d := d + 38) (n := ak_nJ fs + 1 + r.length) K132 (by omega) ⟨yb, by
      rw [ak_jb_out (by omega) (by omega), KO 117 y (by omega) (by omega), BO 117 y (by omega), yq 117 (by omega) (by omega)]
      exact am_s266 (d := d + 38) (n := ak_nJ fs + 1 + r.length + 1) ak_jb_132 (by omega) q⟩)
    generalize ak_jbM (ak_jbM hK (ak_nJ fs + 1 + r.length) 11 (y : Int) 0 (ak_nT fs : Int)) (ak_nJ fs + 1 + r.length + 1) 2 (ak_mM c.us c.m0 117 y) 0 0 = hmF at NO N132 N2 JS2 gM
    clear JS1 j11 k205 gM0 gM1 gC0 go55
    have M : ∀ q k, ¬ (q = 110 ∧ (k = 132 ∨ k = 133 ∨ k = 139)) → ¬ (201 ≤ q ∧ q ≤ 204 ∧ ak_nJ fs + 1 + r.length ≤ k) → ¬ (205 ≤ q ∧ q ≤ 210 ∧ k = ak_nK fs + ak_kc r) → hmF.1 q k = hm.1 q k := fun q k a b c' => (NO q k (by omega) b).trans ((KO q k c' (by omega)).trans (BO q k (by omega)))
    have MJ : ∀ q k, ¬ (q = 208 ∧ k = ak_nK fs + ak_kc r) → hmF.2.1 q k = hm.2.1 q k := fun q k a => by rw [N2]; exact KJ q k a
    have j1p := (ak_T3_open z5).1
    have w' := ak_RN_any (vs' := []) (pc' := c2) (js' := ⟨2, ak_mM c.us c.m0 117 y, 0, 0, 0⟩ :: ⟨11, (y : Int), 0, (ak_nT fs : Int), j.w⟩ :: r) w (ak_SP_fr sp0 (fun q k h => ⟨CO q k (by unfold ak_stC at h; omega) (by unfold ak_stC at h; omega) (by unfold ak_stC at h; omega) (by unfold ak_stC at h; omega), CJ q k (by unfold ak_stC at h; omega)⟩) (fun q k h => ⟨M q k (by unfold ak_stM at h; omega) (by unfold ak_stM at h; omega) (by unfold ak_stM at h; omega), MJ q k (by unfold ak_stM at h; omega)⟩)) (fun q k h => CO q k (by omega) (by omega) (by omega) (by omega)) (fun q k h => CJ q k (by omega)) (fun y hy => ⟨CO _ _ (by omega) (by omega) (by omega) (by omega), CO _ _ (by omega) (by omega) (by omega) (by omega), CJ _ _ (by omega)⟩)
      (fun q k h => M q k (by omega) (by omega) (by omega)) (fun q k h => MJ q k (by omega)) (by rw [CO 73 _ (by omega) (by omega) (by omega) (by omega), M 183 _ (by omega) (by omega) (by omega)]; exact F.1.2.2.2.1) C72 (((CO _ _ (by omega) (by omega) (by omega) (by omega)).trans d4).trans rfl) ((CO _ _ (by omega) (by omega) (by omega) (by omega)).trans d5) ((CO _ _ (by omega) (by omega) (by omega) (by omega)).trans o1) C77 ((M _ _ (by omega) (by omega) (by omega)).trans o3) ((M _ _ (by omega) (by omega) (by omega)).trans e3) (N132.trans (by rw [List.length_cons, List.length_cons]; congr 1)) (((NO _ _ (by omega) (by omega)).trans K139).trans rfl)
      JS2 trivial (ak_K_mk (j := ⟨2, ak_mM c.us c.m0 117 y, 0, 0, 0⟩) ⟨rfl, c3, j1, G, by rw [List.length_cons]; omega, by show ak_gc r + 1 + G ≤ 21; omega, z5, ak_K_mk (j := ⟨11, (y : Int), 0, (ak_nT fs : Int), j.w⟩) ⟨rfl, z6, K⟩⟩) ⟨by rw [List.length_cons, List.length_cons]; omega, by show 0 ≤ 151; decide, by show ak_gc r + 1 + 0 ≤ 21; omega⟩
    refine ak_OUT1 w w' (by simp) gC gM ?_ (by rw [M _ _ (by omega) (by omega) (by omega)]; exact Int.le_refl _) C22 (fun q a b => by rw [M 110 q (by omega) (by omega) (by omega)]; omega)
    show ak_pcs fs + (9100 - c2) + 9101 * (ak_gw r + 0 + 0) + 1 ≤ ak_pcs fs + (9100 - f.pc) + 9101 * ak_gw f.js
    rw [fj]
    omega
end LEV
