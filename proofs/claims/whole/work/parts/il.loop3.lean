/-! the run: loops, all of them -/
section LP3
variable {e : ak_X3} {d ρ1 ρ2 W y n N o pc a0 c1 : Nat} {ρ : List Nat} {c : ak_Cx} {g : ak_Gh} {fs : List ak_Fr} {f : ak_Fr} {hc hm : ak_S} {j : ak_Jb} {r : List ak_Jb} {v : Int} {X : Nat → ak_S → Prop} {Q : ak_S → Prop}
theorem ak_o72h {t : Nat} (hs : c.s = 0 ∨ c.s = 1) (ht : t < 60) (h7 : hc.1 69 7 = ((t + 1 : Nat) : Int)) (h72 : hc.1 72 t = (pc : Int)) (b1 : hc.1 (ak_T c.s + 2) pc = (o : Int)) (b2 : (pc : Int) < hc.1 (ak_T c.s + 1) 2) (b3 : pc < 9030) (b4 : hc.1 (ak_T c.s + 3) pc = v) (ho : 25 < o ∧ o ≤ 31)
    (w96 : ak_MV e 0 d (ak_rc c.s ρ1 ρ2) 96 [am_r 32, am_i (o : Int), am_i v] (ak_atC hc t pc) Q (fun _ _ => False)) : ak_MV e 0 (d + 1) (ak_rc c.s ρ1 ρ2) 72 [am_r 32] hc Q X := by
  refine ak_MV_of (Nat.le_of_ble_eq_true rfl) (am_k72_0 hs ?_)
  rw [h7, show am_w32 (((t + 1 : Nat) : Int) - 1) = (t : Int) from by rw [ak_w _ (by omega)]; omega, ak_natn, h72, ak_natn, b1, b4, ak_wj (show pc < 1000000 by omega)]
  have hb : 0 ≤ (t : Int) ∧ (t : Int) < 60 := by omega
  have hp : 0 ≤ (pc : Int) ∧ (pc : Int) < 9600 := by omega
  exact ⟨fun z => absurd z (by omega), fun _ => ⟨hb, fun z => absurd z (by omega), fun _ => ⟨hb, fun _ => ⟨hb, hb, hp, hp, fun g1 => ⟨fun g2 => ⟨fun g3 => ⟨fun g4 => ⟨fun g5 => absurd ho (by omega), fun g5 => w96⟩, fun g4 => absurd ho (by omega)⟩, fun g3 => absurd ho (by omega)⟩, fun g2 => absurd ho (by omega)⟩, fun g1 => absurd ho (by omega)⟩, fun z => absurd z (by omega)⟩⟩⟩
theorem ak_st_again {H J1 c9 : Nat} (w : ak_RN c g (f :: fs) hc hm) (fj : f.js = j :: r) (hk : j.k = 7) (hy : j.n = (y : Int)) (fv : f.vs = []) (h114 : ak_mM c.us c.m0 114 y = 30) (h2 : ak_mC c.s c.h0 (ak_T c.s + 2) f.pc = 30) (h3 : ak_mC c.s c.h0 (ak_T c.s + 3) f.pc = (a0 : Int)) (h2' : ak_mC c.s c.h0 (ak_T c.s + 2) a0 = 26) (h3' : ak_mC c.s c.h0 (ak_T c.s + 3) a0 = ak_mM c.us c.m0 120 y) (hH : H ≤ 150) (hJ : r.length + J1 + 1 ≤ 6165) (tt : ak_T3 (ak_mC c.s c.h0) (ak_mM c.us c.m0) (ak_T c.s) c.us 0 (ak_mM c.us c.m0 115 y) H (g.mt f.r + 40 * g.lv f.r) J1 (a0 + 1) c9) (K : ak_K (ak_mC c.s c.h0) (ak_mM c.us c.m0) (ak_T c.s) c.us (g.mt f.r + 40 * g.lv f.r) (⟨6, (y : Int), 0, 0, 0⟩ :: r) c9 [true]) : ak_OUT e d ρ1 ρ2 ρ c (ak_Phi hm (f :: fs)) W hc hm := by
  obtain ⟨hs, l60, fU, f5, φ5, sp0, F, L, J0, V, K0, ⟨l1, l2, l3⟩, ⟨d2, d3, d4, d5, o1, o2⟩, ⟨e1, e2, e3, e4, e5, o3⟩, ⟨x1, x2, x3, x4⟩, d72, lt1⟩ := ak_tp w
  obtain ⟨t1, t2, t3, t4, t5, t6⟩ := ak_tj w fj
  obtain ⟨g1, g2, g3⟩ := ak_gc_of (j := j) (r := r) (by omega)
  obtain ⟨b1, b2, b3, b4⟩ := ak_cd sp0 h2 (by decide)
  obtain ⟨bb1, bb2, bb3, bb4⟩ := ak_cd sp0 h2' (by decide)
  rw [h3'] at bb4
  obtain ⟨y18, yq⟩ := ak_nde (q0 := 114) (y := y) sp0 (by omega) (by rw [h114]; decide)
  have j2 := sp0.2.2.2.2.2.1.1.2.2.1
  have jb := sp0.2.2.2.2.2.1.2.1.1
  obtain ⟨N, h104⟩ := Int.eq_ofNat_of_zero_le jb.1
  have etc : ak_tc f.vs = 0 := by rw [fv]; rfl
  have elen : f.vs.length = 0 := by rw [fv]; rfl
  rw [etc] at e3 x2
  rw [elen] at d5 x1
  rw [fj, g1] at d4 l3
  rw [fj, g2] at e5
  have hT := ak_T_bd hs
  have tb : 0 ≤ (fs.length : Int) ∧ (fs.length : Int) < 60 := by omega
  have kl := ak_K_len tt
  -- the one jumps back
  have JO : ∀ q k, ¬ (q = 32 ∧ k = 12) → ¬ (q = 72 ∧ k = fs.length) → ((am_up (ak_atC hc fs.length f.pc).1 72 fs.length (a0 : Int), (ak_atC hc fs.length f.pc).2) : ak_S).1 q k = hc.1 q k := fun q k a b => (ak_up_out1 b).trans (ak_atC_o a b)
  have J72 : ((am_up (ak_atC hc fs.length f.pc).1 72 fs.length (a0 : Int), (ak_atC hc fs.length f.pc).2) : ak_S).1 72 fs.length = (a0 : Int) := ak_up_at1
  have JJ : ((am_up (ak_atC hc fs.length f.pc).1 72 fs.length (a0 : Int), (ak_atC hc fs.length f.pc).2) : ak_S).2 = hc.2 := rfl
  have gC1 : ak_cgo e (d + 40) c.s ρ1 ρ2 72 [am_r 32] hc (am_up (ak_atC hc fs.length f.pc).1 72 fs.length (a0 : Int), (ak_atC hc fs.length f.pc).2) := fun Q X q => by
    refine ak_o72 (d := d + 39) (o := 30) w h2 (fun z => absurd z (by decide)) (fun z z2 => absurd z2 (by decide)) (fun z z2 => absurd z2 (by decide)) (fun z z2 => absurd z2 (by decide)) (fun _ _ => ?_) (fun z => absurd z (by decide))
    refine ak_MV_of (Nat.le_of_ble_eq_true rfl) (am_k96_0 hs ⟨trivial, fun z => absurd rfl z.2.1, fun z => absurd z (by decide), fun _ => ?_, trivial⟩)
    rw [ak_atC_12, ak_natn, h3]
    exact ⟨tb, q⟩
  generalize ((am_up (ak_atC hc fs.length f.pc).1 72 fs.length (a0 : Int), (ak_atC hc fs.length f.pc).2) : ak_S) = hcJ at JO J72 JJ gC1
  have k77 : hcJ.1 77 10 = 0 := (JO _ _ (by omega) (by omega)).trans o2
  have k11 : hcJ.1 32 11 = -1 := (JO _ _ (by omega) (by omega)).trans o1
  have jJ : hcJ.2.1 64 2 = (N : Int) := by rw [JJ]; exact j2.trans h104
  -- its next order
  have gC2 : ∀ (Q : ak_S → Prop) (X : Nat → ak_S → Prop), (N < 4000 → Q (am_up (ak_tkA hcJ fs.length a0 N).1 73 fs.length (ak_mM c.us c.m0 120 y), (ak_tkA hcJ fs.length a0 N).2)) → (N = 4000 → Q (am_up (ak_atC hcJ fs.length a0).1 32 11 2, (ak_atC hcJ fs.length a0).2)) → ak_MV e 0 (d + 40) (ak_rc c.s ρ1 ρ2) 72 [am_r 32] hcJ Q X := fun Q X q1 q0 => by
    refine ak_o72h (d := d + 39) (o := 26) (t := fs.length) (pc := a0) (v := ak_mM c.us c.m0 120 y) hs (by omega) ((JO _ _ (by omega) (by omega)).trans d2) J72 ((JO _ _ (by omega) (by omega)).trans bb1) (by rw [JO _ _ (by omega) (by omega)]; exact bb2) bb3 ((JO _ _ (by omega) (by omega)).trans bb4) (by decide) ?_
    refine ak_MV_of (Nat.le_of_ble_eq_true rfl) (am_k96_0 hs ⟨trivial, fun z => absurd rfl z.1, fun _ => ?_, fun z => absurd z (by decide), trivial⟩)
    refine am_s76 (d := d + 37) (n := N) hs jJ (by omega) (fun hN => ⟨fun z => absurd z (by decide), fun _ => ?_⟩) (fun hN => ⟨fun _ => q0 hN, fun z => absurd rfl z⟩)
    have q2 : (0 ≤ (ak_tkA hcJ fs.length a0 N).1 32 12 ∧ (ak_tkA hcJ fs.length a0 N).1 32 12 < (60 : Int)) ∧ Q (am_up (ak_tkA hcJ fs.length a0 N).1 73 ((ak_tkA hcJ fs.length a0 N).1 32 12).toNat (ak_mM c.us c.m0 120 y), (ak_tkA hcJ fs.length a0 N).2) := by
      rw [(ak_tkA_v (hc := hcJ) (t := fs.length) (pc := a0) (N := N)).2.2.1, ak_natn]
      exact ⟨tb, q1 hN⟩
    exact q2
  have P : ∀ q i, ¬ (q = 110 ∧ i = 132) → (ak_poM hm (ak_nJ fs + 1 + r.length)).1 q i = hm.1 q i := fun q i a => ak_poM_o a
  have yb : 0 ≤ (y : Int) ∧ (y : Int) < 18000 := by omega
  have φb : 0 ≤ (g.φ f.r : Int) ∧ (g.φ f.r : Int) < 564 := by omega
  -- the other, up to its step
  have gM0 : ∀ (Q : ak_S → Prop) (X : Nat → ak_S → Prop), (N < 4000 → ak_MV e 1 (d + 40) ρ 266 [am_r 110, am_i 6, am_i (y : Int), am_i 0, am_i 0] (am_up (am_up (ak_poM hm (ak_nJ fs + 1 + r.length)).1 110 104 ((N + 1 : Nat) : Int)) 183 (g.φ f.r) (ak_mM c.us c.m0 120 y), hm.2) (fun h11 => (0 ≤ (y : Int) ∧ (y : Int) < (18000 : Int)) ∧ ak_MV e 1 (d + 40) ρ 266 [am_r 110, am_i 1, am_i (h11.1 115 y), am_i 0, am_i 0] h11 (fun h12 => ak_W0 e 1 (d + 40) 298 ρ 0 [some (am_r 110), none, none] [] h12 (ak_qv Q X)) (fun _ _ => False)) (fun _ _ => False)) → (N = 4000 → ak_W0 e 1 (d + 40) 298 ρ 0 [some (am_r 110), none, none] [] (am_up (ak_poM hm (ak_nJ fs + 1 + r.length)).1 110 105 2, (ak_poM hm (ak_nJ fs + 1 + r.length)).2) (ak_qv Q X)) → ak_W0 e 1 (d + 40) 298 ρ 0 [some (am_r 110), none, none] [] hm (ak_qv Q X) := fun Q X q1 q0 => by
    refine am_k298_0 ?_
    rw [t1, show am_w32 (((ak_nJ fs + 1 + r.length + 1 : Nat) : Int) - 1) = ((ak_nJ fs + 1 + r.length : Nat) : Int) from by rw [ak_w _ (by omega)]; omega, ak_natn, t3, t4, hy]
    have hb : 0 ≤ ((ak_nJ fs + 1 + r.length : Nat) : Int) ∧ ((ak_nJ fs + 1 + r.length : Nat) : Int) < 370000 := by omega
    refine ⟨fun z => absurd z (by omega), fun _ => ⟨fun z => absurd z (by omega), fun _ => ⟨hb, hb, trivial, fun z => absurd z (by omega), fun z => absurd z (by omega), fun z => absurd z (by omega), fun z => absurd z (by omega), fun z => absurd z (by omega), fun z => absurd z (by omega), fun z => absurd z (by omega), fun _ => ?_, fun z => absurd z (by omega), fun z => absurd z (by omega), fun z => absurd z (by omega), trivial⟩⟩⟩
    refine am_s267 (d := d + 39) (h := ak_poM hm (ak_nJ fs + 1 + r.length)) (n := N) ((P _ _ (by omega)).trans h104) (by omega) (fun hN => ?_) (fun hN => ⟨fun z => ?_, fun _ => q0 hN⟩)
    · have TO : ∀ q k, ¬ (q = 110 ∧ (k = 104 ∨ k = 132)) → ((am_up (ak_poM hm (ak_nJ fs + 1 + r.length)).1 110 104 ((N + 1 : Nat) : Int), (ak_poM hm (ak_nJ fs + 1 + r.length)).2) : ak_S).1 q k = hm.1 q k := fun q k a => (ak_up_out1 (by omega)).trans (P q k (by omega))
      rw [ak_natn, TO 110 105 (by omega), o3, TO 110 102 (by omega), e1, ak_natn, TO 120 y (by omega), yq 120 (by omega) (by omega)]
      exact ⟨fun _ => ⟨yb, φb, q1 hN⟩, fun z => absurd z (by decide)⟩
    · have : ((am_up (ak_poM hm (ak_nJ fs + 1 + r.length)).1 110 105 2, (ak_poM hm (ak_nJ fs + 1 + r.length)).2) : ak_S).1 110 105 = 2 := ak_up_at1
      omega
  by_cases hN : N = 4000
  · -- no steps left
    have EO : ∀ q k, ¬ (q = 32 ∧ (k = 11 ∨ k = 12)) → ¬ (q = 72 ∧ k = fs.length) → ((am_up (ak_atC hcJ fs.length a0).1 32 11 2, (ak_atC hcJ fs.length a0).2) : ak_S).1 q k = hc.1 q k := fun q k a b => (ak_up_out1 (by omega)).trans ((ak_atC_o (by omega) b).trans (JO q k (by omega) b))
    have E11 : ((am_up (ak_atC hcJ fs.length a0).1 32 11 2, (ak_atC hcJ fs.length a0).2) : ak_S).1 32 11 = 2 := ak_up_at1
    have E2 : ((am_up (ak_atC hcJ fs.length a0).1 32 11 2, (ak_atC hcJ fs.length a0).2) : ak_S).2 = hc.2 := JJ
    have gE : ak_cgo e (d + 40) c.s ρ1 ρ2 72 [am_r 32] hcJ (am_up (ak_atC hcJ fs.length a0).1 32 11 2, (ak_atC hcJ fs.length a0).2) := fun Q X q => gC2 Q X (fun z => absurd z (by omega)) (fun _ => q)
    generalize ((am_up (ak_atC hcJ fs.length a0).1 32 11 2, (ak_atC hcJ fs.length a0).2) : ak_S) = hcE at EO E11 E2 gE
    have MO : ∀ q k, ¬ (q = 110 ∧ (k = 105 ∨ k = 132)) → ((am_up (ak_poM hm (ak_nJ fs + 1 + r.length)).1 110 105 2, (ak_poM hm (ak_nJ fs + 1 + r.length)).2) : ak_S).1 q k = hm.1 q k := fun q k a => (ak_up_out1 (by omega)).trans (P q k (by omega))
    have M105 : ((am_up (ak_poM hm (ak_nJ fs + 1 + r.length)).1 110 105 2, (ak_poM hm (ak_nJ fs + 1 + r.length)).2) : ak_S).1 110 105 = 2 := ak_up_at1
    have M2 : ((am_up (ak_poM hm (ak_nJ fs + 1 + r.length)).1 110 105 2, (ak_poM hm (ak_nJ fs + 1 + r.length)).2) : ak_S).2 = hm.2 := rfl
    have gM : ak_mgo e (d + 40) ρ hm (am_up (ak_poM hm (ak_nJ fs + 1 + r.length)).1 110 105 2, (ak_poM hm (ak_nJ fs + 1 + r.length)).2) := fun Q X q => gM0 Q X (fun z => absurd z (by omega)) (fun _ => q)
    generalize ((am_up (ak_poM hm (ak_nJ fs + 1 + r.length)).1 110 105 2, (ak_poM hm (ak_nJ fs + 1 + r.length)).2) : ak_S) = hmE at MO M105 M2 gM
    refine Or.inr ⟨1 + 1, hcE, hmE, 2, ak_fend_f w (Or.inl rfl) (ak_SP_fr sp0 (fun q k h => ⟨EO q k (by unfold ak_stC at h; omega) (by unfold ak_stC at h; omega), by rw [E2]⟩) (fun q k h => ⟨MO q k (fun z => h.1 ⟨z.1, by omega⟩), by rw [M2]⟩)) (fun q k a b z => EO q k (by omega) (by omega)) E11 M105, ?_, ak_turns_trans (ak_turn1 hs (by omega) gC1 k77) (ak_turn1 hs (by omega) gE ((EO _ _ (by omega) (by omega)).trans o2)), gM, by rw [E2]⟩
    unfold ak_Phi
    show 1 + 1 ≤ _ + (ak_pcs fs + (9100 - f.pc) + 9101 * ak_gw f.js)
    omega
  · have hN : N < 4000 := by omega
    obtain ⟨Av1, Av2, Av3, Av4⟩ := ak_tkA_v (hc := hcJ) (t := fs.length) (pc := a0) (N := N)
    have CO : ∀ q k, ¬ (q = 32 ∧ k = 12) → ¬ ((q = 72 ∨ q = 73) ∧ k = fs.length) → ((am_up (ak_tkA hcJ fs.length a0 N).1 73 fs.length (ak_mM c.us c.m0 120 y), (ak_tkA hcJ fs.length a0 N).2) : ak_S).1 q k = hc.1 q k := fun q k a b => (ak_up_out1 (by omega)).trans ((ak_tkA_o a (by omega)).trans (JO q k a (by omega)))
    have CJ : ∀ q k, ¬ (q = 64 ∧ k = 2) → ((am_up (ak_tkA hcJ fs.length a0 N).1 73 fs.length (ak_mM c.us c.m0 120 y), (ak_tkA hcJ fs.length a0 N).2) : ak_S).2.1 q k = hc.2.1 q k := fun q k a => (ak_tkA_J a).trans (by rw [JJ])
    have C73 : ((am_up (ak_tkA hcJ fs.length a0 N).1 73 fs.length (ak_mM c.us c.m0 120 y), (ak_tkA hcJ fs.length a0 N).2) : ak_S).1 73 fs.length = ak_mM c.us c.m0 120 y := ak_up_at1
    have C72 : ((am_up (ak_tkA hcJ fs.length a0 N).1 73 fs.length (ak_mM c.us c.m0 120 y), (ak_tkA hcJ fs.length a0 N).2) : ak_S).1 72 fs.length = ((a0 + 1 : Nat) : Int) := (ak_up_out1 (by omega)).trans Av4
    have C64 : ((am_up (ak_tkA hcJ fs.length a0 N).1 73 fs.length (ak_mM c.us c.m0 120 y), (ak_tkA hcJ fs.length a0 N).2) : ak_S).2.1 64 2 = ((N + 1 : Nat) : Int) := Av1
    have C22 : ((am_up (ak_tkA hcJ fs.length a0 N).1 73 fs.length (ak_mM c.us c.m0 120 y), (ak_tkA hcJ fs.length a0 N).2) : ak_S).2.2 = hc.2.2 := Av2.trans (by rw [JJ])
    have gC : ak_cgo e (d + 40) c.s ρ1 ρ2 72 [am_r 32] hcJ (am_up (ak_tkA hcJ fs.length a0 N).1 73 fs.length (ak_mM c.us c.m0 120 y), (ak_tkA hcJ fs.length a0 N).2) := fun Q X q => gC2 Q X (fun _ => q) (fun z => absurd z (by omega))
    generalize ((am_up (ak_tkA hcJ fs.length a0 N).1 73 fs.length (ak_mM c.us c.m0 120 y), (ak_tkA hcJ fs.length a0 N).2) : ak_S) = hcF at CO CJ C73 C72 C64 C22 gC
    have LO : ∀ q k, ¬ (q = 110 ∧ (k = 104 ∨ k = 132)) → ¬ (q = 183 ∧ k = g.φ f.r) → ((am_up (am_up (ak_poM hm (ak_nJ fs + 1 + r.length)).1 110 104 ((N + 1 : Nat) : Int)) 183 (g.φ f.r) (ak_mM c.us c.m0 120 y), hm.2) : ak_S).1 q k = hm.1 q k := fun q k a b => (ak_up_out1 b).trans ((ak_up_out (by omega)).trans (P q k (by omega)))
    have L104 : ((am_up (am_up (ak_poM hm (ak_nJ fs + 1 + r.length)).1 110 104 ((N + 1 : Nat) : Int)) 183 (g.φ f.r) (ak_mM c.us c.m0 120 y), hm.2) : ak_S).1 110 104 = ((N + 1 : Nat) : Int) := (ak_up_out1 (by omega)).trans ak_up_at
    have L132 : ((am_up (am_up (ak_poM hm (ak_nJ fs + 1 + r.length)).1 110 104 ((N + 1 : Nat) : Int)) 183 (g.φ f.r) (ak_mM c.us c.m0 120 y), hm.2) : ak_S).1 110 132 = ((ak_nJ fs + 1 + r.length : Nat) : Int) := (ak_up_out1 (by omega)).trans ((ak_up_out (by omega)).trans ak_poM_v)
    have L183 : ((am_up (am_up (ak_poM hm (ak_nJ fs + 1 + r.length)).1 110 104 ((N + 1 : Nat) : Int)) 183 (g.φ f.r) (ak_mM c.us c.m0 120 y), hm.2) : ak_S).1 183 (g.φ f.r) = ak_mM c.us c.m0 120 y := ak_up_at1
    have L2 : ((am_up (am_up (ak_poM hm (ak_nJ fs + 1 + r.length)).1 110 104 ((N + 1 : Nat) : Int)) 183 (g.φ f.r) (ak_mM c.us c.m0 120 y), hm.2) : ak_S).2 = hm.2 := rfl
    generalize ((am_up (am_up (ak_poM hm (ak_nJ fs + 1 + r.length)).1 110 104 ((N + 1 : Nat) : Int)) 183 (g.φ f.r) (ak_mM c.us c.m0 120 y), hm.2) : ak_S) = hL at LO L104 L132 L183 L2 gM0
    have JL : ak_JS g.O g.B g.φ (f.r :: ak_rms fs) fs.length (ak_nJ fs + 1) (ak_nG fs) (ak_nK fs) (ak_nT fs) hcF hL r := ak_JS_fr (Nat.le_refl _) (Nat.le_refl _) (fun _ _ => rfl) t6 (fun q k a b _ => ⟨CO q k (by omega) (by omega), CJ q k (by omega)⟩) (fun q k a b _ => LO q k (by omega) (by omega)) (fun q k a b _ => ⟨LO q k (by omega) (by omega), by rw [L2]⟩)
    have JD := ak_JS_jb (k := 6) (w := 0) (jn := (y : Int)) (ja := 0) (jb := 0) JL (by decide)
    have JE := ak_JS_jb (k := 1) (w := 2 * J1) (jn := ak_mM c.us c.m0 115 y) (ja := 0) (jb := 0) JD (by decide)
    rw [List.length_cons] at JE
    have gM : ak_mgo e (d + 40) ρ hm (ak_jbM (ak_jbM hL (ak_nJ fs + 1 + r.length) ((6 : Nat) : Int) (y : Int) 0 0) (ak_nJ fs + 1 + (r.length + 1)) ((1 : Nat) : Int) (ak_mM c.us c.m0 115 y) 0 0) := fun Q X q => gM0 Q X (fun _ => am_s266 (d := d + 39) (n := ak_nJ fs + 1 + r.length) L132 (by omega) ⟨yb, by
      rw [ak_jb_out (by omega) (by omega), LO 115 y (by omega) (by omega), yq 115 (by omega) (by omega)]
      exact am_s266 (d := d + 39) (n := ak_nJ fs + 1 + (r.length + 1)) ak_jb_132 (by omega) q⟩) (fun z => absurd z (by omega))
    have NO : ∀ q k, ¬ (q = 110 ∧ k = 132) → ¬ (201 ≤ q ∧ q ≤ 204 ∧ ak_nJ fs + 1 + r.length ≤ k) → (ak_jbM (ak_jbM hL (ak_nJ fs + 1 + r.length) ((6 : Nat) : Int) (y : Int) 0 0) (ak_nJ fs + 1 + (r.length + 1)) ((1 : Nat) : Int) (ak_mM c.us c.m0 115 y) 0 0).1 q k = hL.1 q k := fun q k a b => (ak_jb_out a (by omega)).trans (ak_jb_out a (by omega))
    have N132 : (ak_jbM (ak_jbM hL (ak_nJ fs + 1 + r.length) ((6 : Nat) : Int) (y : Int) 0 0) (ak_nJ fs + 1 + (r.length + 1)) ((1 : Nat) : Int) (ak_mM c.us c.m0 115 y) 0 0).1 110 132 = ((ak_nJ fs + 1 + (r.length + 1) + 1 : Nat) : Int) := ak_jb_132
    have N2 : (ak_jbM (ak_jbM hL (ak_nJ fs + 1 + r.length) ((6 : Nat) : Int) (y : Int) 0 0) (ak_nJ fs + 1 + (r.length + 1)) ((1 : Nat) : Int) (ak_mM c.us c.m0 115 y) 0 0).2 = hm.2 := L2
    generalize ak_jbM (ak_jbM hL (ak_nJ fs + 1 + r.length) ((6 : Nat) : Int) (y : Int) 0 0) (ak_nJ fs + 1 + (r.length + 1)) ((1 : Nat) : Int) (ak_mM c.us c.m0 115 y) 0 0 = hmF at JE gM NO N132 N2
    have M : ∀ q k, ¬ (q = 110 ∧ (k = 104 ∨ k = 132)) → ¬ (201 ≤ q ∧ q ≤ 204 ∧ ak_nJ fs + 1 + r.length ≤ k) → ¬ (q = 183 ∧ k = g.φ f.r) → hmF.1 q k = hm.1 q k := fun q k a b c' => (NO q k (by omega) b).trans (LO q k a c')
    have M104 : hmF.1 110 104 = ((N + 1 : Nat) : Int) := (NO _ _ (by omega) (by omega)).trans L104
    have M183 : hmF.1 183 (g.φ f.r) = ak_mM c.us c.m0 120 y := (NO _ _ (by omega) (by omega)).trans L183
    clear JD JL gM0 gC2
    have jnF : ak_jn hcF hmF := ak_jn_s (n := N) sp0.2.2.2.2.2.1 hN C64 M104 (fun q k a b z => ⟨CO q k (by omega) (by omega), CJ q k z⟩) (fun q k z => ⟨M q k (by omega) (by omega) (by omega), by rw [N2]⟩)
    have spF : ak_SPP c g (ak_rms (f :: fs)) hcF hmF := ak_SP_re sp0 jnF (fun q k a b => ⟨CO q k (by unfold ak_stC at a; omega) (by unfold ak_stC at a; omega), CJ q k (by omega)⟩) (fun q k a b z => ⟨M q k (by unfold ak_stM at a; omega) (by unfold ak_stM at a; omega) (by unfold ak_stM at a; omega), by rw [N2]⟩)
    have w' := ak_RN_any (vs' := []) (pc' := a0 + 1) (js' := ⟨1, ak_mM c.us c.m0 115 y, 0, 0, 2 * J1⟩ :: ⟨6, (y : Int), 0, 0, 0⟩ :: r) w spF (fun q k h => CO q k (by omega) (by omega)) (fun q k h => CJ q k (by omega)) (fun y hy => ⟨CO _ _ (by omega) (by omega), CO _ _ (by omega) (by omega), CJ _ _ (by omega)⟩)
      (fun q k h => M q k (by omega) (by omega) (by omega)) (fun q k h => by rw [N2]) (C73.trans M183.symm) C72 (((CO _ _ (by omega) (by omega)).trans d4).trans rfl) ((CO _ _ (by omega) (by omega)).trans d5) ((CO _ _ (by omega) (by omega)).trans o1) ((CO _ _ (by omega) (by omega)).trans o2) ((M _ _ (by omega) (by omega) (by omega)).trans o3) ((M _ _ (by omega) (by omega) (by omega)).trans e3) (N132.trans (by rw [List.length_cons, List.length_cons]; congr 1)) ((M _ _ (by omega) (by omega) (by omega)).trans e5)
      JE trivial (ak_K_mk (j := ⟨1, ak_mM c.us c.m0 115 y, 0, 0, 2 * J1⟩) ⟨c9, H, J1, rfl, by show 0 + H ≤ 151; omega, by rw [List.length_cons]; omega, tt, K⟩) ⟨by rw [List.length_cons, List.length_cons]; omega, by show 0 ≤ 151; decide, by show ak_gc r + 0 + 0 ≤ 21; omega⟩
    refine Or.inl ⟨1 + 1, g, _, hcF, hmF, w', by simp, ak_turns_trans (ak_turn1 hs (by omega) gC1 k77) (ak_turn1 hs (by omega) gC ((CO _ _ (by omega) (by omega)).trans o2)), gM, ?_, fun h => absurd h (by decide), C22, fun q a b => by rw [M 110 q (by omega) (by omega) (by omega)]; omega⟩
    unfold ak_Phi
    rw [M104, h104, Int.toNat_natCast, Int.toNat_natCast]
    show 18300 * (4000 - (N + 1)) + (ak_pcs fs + (9100 - (a0 + 1)) + 9101 * (ak_gw r + 0 + 0)) + (1 + 1) ≤ 18300 * (4000 - N) + (ak_pcs fs + (9100 - f.pc) + 9101 * ak_gw f.js)
    rw [fj, g3]
    omega
end LP3
