/-! the run: a slot is set -/
section SET2
variable {e : ak_X3} {d ρ1 ρ2 P W y n N T0 o i k A a u us S O B Mt : Nat} {ρ : List Nat} {c : ak_Cx} {g : ak_Gh} {V : List Nat} {fs : List ak_Fr} {f : ak_Fr} {h h1 h2 hP hc hm hc' hm' hcS hmS : ak_S} {j : ak_Jb} {r : List ak_Jb} {v v2 : Bool × Int × Int} {s w nm pl ho x : Int} {X : Nat → ak_S → Prop}
theorem ak_spent4 (w : ak_RN c g (f :: fs) hc hm) (fj : f.js = j :: r) (hk : j.k = 4) (h2 : ak_mC c.s c.h0 (ak_T c.s + 2) f.pc = (o : Int)) (ho : 16 < o ∧ o ≤ 20) (h104 : hm.1 110 104 = 4000) (gM : ak_goV e (d + 40) ρ 293 [am_r 110, am_i j.n] (ak_poM hm (ak_nJ fs + 1 + r.length)) (am_up (ak_poM hm (ak_nJ fs + 1 + r.length)).1 110 105 2, (ak_poM hm (ak_nJ fs + 1 + r.length)).2)) : ak_OUT e d ρ1 ρ2 ρ c (ak_Phi hm (f :: fs)) W hc hm := by
  obtain ⟨hs, l60, fU, f5, φ5, sp0, F, L, J0, V, K0, ⟨l1, l2, l3⟩, ⟨d2, d3, d4, d5, o1, o2⟩, ⟨e1, e2, e3, e4, e5, o3⟩, ⟨x1, x2, x3, x4⟩, d72, lt1⟩ := ak_tp w
  obtain ⟨t1, t2, t3, t4, t5, t6⟩ := ak_tj w fj
  obtain ⟨b1, b2, b3, b4⟩ := ak_cd sp0 h2 (by omega)
  have j2 := sp0.2.2.2.2.2.1.1.2.2.1
  have AO : ∀ q k, ¬ (q = 32 ∧ k = 12) → ¬ (q = 72 ∧ k = fs.length) → (ak_atC hc fs.length f.pc).1 q k = hc.1 q k := fun q k a b => ak_atC_o a b
  have gC : ak_cgo e (d + 40) c.s ρ1 ρ2 72 [am_r 32] hc (am_up (ak_atC hc fs.length f.pc).1 32 11 2, (ak_atC hc fs.length f.pc).2) := fun Q X q => by
    refine ak_o72 (d := d + 39) (o := o) w h2 (fun z => absurd z (by omega)) (fun _ _ => absurd ho (by omega)) (fun _ _ => ?_) (fun z => absurd z (by omega)) (fun z => absurd z (by omega)) (fun z => absurd z (by omega))
    refine ak_MV_of (Nat.le_of_ble_eq_true rfl) (am_k85_0 hs ?_)
    exact am_s76 (d := d + 37) (n := 4000) hs (j2.trans h104) (Nat.le_refl _) (fun z => absurd z (by omega)) (fun _ => ⟨fun z => absurd rfl z, fun _ => q⟩)
  have EO : ∀ q k, ¬ (q = 32 ∧ (k = 11 ∨ k = 12)) → ¬ (q = 72 ∧ k = fs.length) → ((am_up (ak_atC hc fs.length f.pc).1 32 11 2, (ak_atC hc fs.length f.pc).2) : ak_S).1 q k = hc.1 q k := fun q k a b => (ak_up_out1 (by omega)).trans (AO q k (by omega) b)
  have E11 : ((am_up (ak_atC hc fs.length f.pc).1 32 11 2, (ak_atC hc fs.length f.pc).2) : ak_S).1 32 11 = 2 := ak_up_at1
  have E2 : ((am_up (ak_atC hc fs.length f.pc).1 32 11 2, (ak_atC hc fs.length f.pc).2) : ak_S).2 = hc.2 := rfl
  generalize ((am_up (ak_atC hc fs.length f.pc).1 32 11 2, (ak_atC hc fs.length f.pc).2) : ak_S) = hcE at gC EO E11 E2
  have MO : ∀ q k, ¬ (q = 110 ∧ (k = 105 ∨ k = 132)) → ((am_up (ak_poM hm (ak_nJ fs + 1 + r.length)).1 110 105 2, (ak_poM hm (ak_nJ fs + 1 + r.length)).2) : ak_S).1 q k = hm.1 q k := fun q k a => (ak_up_out1 (by omega)).trans (ak_poM_o (by omega))
  have M105 : ((am_up (ak_poM hm (ak_nJ fs + 1 + r.length)).1 110 105 2, (ak_poM hm (ak_nJ fs + 1 + r.length)).2) : ak_S).1 110 105 = 2 := ak_up_at1
  have M2 : ((am_up (ak_poM hm (ak_nJ fs + 1 + r.length)).1 110 105 2, (ak_poM hm (ak_nJ fs + 1 + r.length)).2) : ak_S).2 = hm.2 := rfl
  generalize ((am_up (ak_poM hm (ak_nJ fs + 1 + r.length)).1 110 105 2, (ak_poM hm (ak_nJ fs + 1 + r.length)).2) : ak_S) = hmE at gM MO M105 M2
  refine Or.inr ⟨1, hcE, hmE, 2, ak_fend_f w (Or.inl rfl) (ak_SP_fr sp0 (fun q k h => ⟨EO q k (by unfold ak_stC at h; omega) (by unfold ak_stC at h; omega), by rw [E2]⟩) (fun q k h => ⟨MO q k (fun z => h.1 ⟨z.1, by omega⟩), by rw [M2]⟩)) (fun q k a b z => EO q k (by omega) (by omega)) E11 M105, ?_, ak_turn1 hs (by omega) gC ((EO _ _ (by omega) (by omega)).trans o2), ak_job t1 (by omega) (by omega) t3 t4 (fun z => absurd z (by omega)) (fun z => absurd z (by omega)) (fun z => absurd z (by omega)) (fun _ => gM) (by omega), by rw [E2]⟩
  unfold ak_Phi
  show 1 ≤ _ + (ak_pcs fs + (9100 - f.pc) + 9101 * ak_gw f.js)
  omega
theorem ak_dn_23 (w : ak_RN c g (f :: fs) hc hm) (fj : f.js = j :: r) (hk : j.k = 4) (hy : j.n = (y : Int)) (fv : f.vs = [v, v2]) (v1 : v.1 = true) (v21 : v2.1 = true) (h114 : ak_mM c.us c.m0 114 y = 23) (h2 : ak_mC c.s c.h0 (ak_T c.s + 2) f.pc = ((20 : Nat) : Int)) (h3 : ak_mC c.s c.h0 (ak_T c.s + 3) f.pc = (i : Int)) (h117 : ak_mM c.us c.m0 117 y = (i : Int)) (hi : i < c.z 7) (cnt : hm.1 110 109 < 1000000000) (K : ak_K (ak_mC c.s c.h0) (ak_mM c.us c.m0) (ak_T c.s) c.us (g.mt f.r + 40 * g.lv f.r) r (f.pc + 1) []) : ak_OUT e d ρ1 ρ2 ρ c (ak_Phi hm (f :: fs)) W hc hm := by
  obtain ⟨hs, l60, fU, f5, φ5, sp0, F, L, J0, V, K0, ⟨l1, l2, l3⟩, ⟨d2, d3, d4, d5, o1, o2⟩, ⟨e1, e2, e3, e4, e5, o3⟩, ⟨x1, x2, x3, x4⟩, d72, lt1⟩ := ak_tp w
  obtain ⟨t1, t2, t3, t4, t5, t6⟩ := ak_tj w fj
  obtain ⟨b1, b2, b3, b4⟩ := ak_cd sp0 h2 (by decide)
  obtain ⟨y18, yq⟩ := ak_nde (q0 := 114) (y := y) sp0 (by omega) (by rw [h114]; decide)
  have yO : ∀ q, 114 ≤ q → q ≤ 120 → (ak_poM hm (ak_nJ fs + 1 + r.length)).1 q y = ak_mM c.us c.m0 q y := fun q a b => (ak_poM_o (by omega)).trans (yq q a b)
  have job : ∀ hm', ak_goV e (d + 40) ρ 293 [am_r 110, am_i j.n] (ak_poM hm (ak_nJ fs + 1 + r.length)) hm' → ak_mgo e (d + 40) ρ hm hm' := fun hm' h => ak_job t1 (by omega) (by omega) t3 t4 (fun z => absurd z (by omega)) (fun z => absurd z (by omega)) (fun z => absurd z (by omega)) (fun _ => h) (by omega)
  have etc : ak_tc f.vs = 2 := by rw [fv]; show 0 + (if v2.1 = true then 1 else 0) + (if v.1 = true then 1 else 0) = 2; rw [if_pos v1, if_pos v21]
  have elen : f.vs.length = 2 := by rw [fv]; rfl
  rw [etc] at e3 x2
  rw [elen] at d5 x1
  rw [fv] at V
  obtain ⟨⟨r1, r2, vk⟩, r3, _, ⟨p1, p2, vk2⟩, p3, _⟩ := V
  obtain ⟨r4, r5⟩ := r3 v1
  obtain ⟨p4, p5⟩ := p3 v21
  have tc1 : ak_tc [v2] = 1 := by show 0 + (if v2.1 = true then 1 else 0) = 1; rw [if_pos v21]
  rw [tc1] at r4 r5
  have r1 : hc.1 108 (ak_nV fs + 1) = v.2.1 := r1
  have r2 : hc.2.1 109 (ak_nV fs + 1) = v.2.2 := r2
  have p1 : hc.1 108 (ak_nV fs) = v2.2.1 := p1
  have p2 : hc.2.1 109 (ak_nV fs) = v2.2.2 := p2
  have p4 : hm.1 199 (ak_nT fs) = v2.2.1 := p4
  have p5 : hm.2.1 200 (ak_nT fs) = v2.2.2 := p5
  have jb := sp0.2.2.2.2.2.1.2.1.1
  have j2 := sp0.2.2.2.2.2.1.1.2.2.1
  obtain ⟨N, h104⟩ := Int.eq_ofNat_of_zero_le jb.1
  have g293 := fun (Q : ak_S → Prop) (X : Nat → ak_S → Prop) q => ak_293_23 (e := e) (ρ := ρ) (X := X) (Q := Q) (d := d + 39) (T0 := ak_nT fs + 1) y18 ((yO 114 (by omega) (by omega)).trans h114) ((ak_poM_o (by omega)).trans e3) (by omega) q
  by_cases hN : N = 4000
  · subst hN
    refine ak_spent4 (o := 20) w fj hk h2 (by decide) h104 (fun Q X q => ?_)
    rw [hy]
    refine g293 Q X (ak_MV_of (Nat.le_of_ble_eq_true rfl) (am_k295_0 (am_s267 (d := d + 37) (n := 4000) ((ak_poM_o (by omega)).trans h104) (Nat.le_refl _) (fun z => absurd z (by omega)) (fun _ => ⟨fun z => ?_, fun _ => q⟩))))
    have : ((am_up (ak_poM hm (ak_nJ fs + 1 + r.length)).1 110 105 2, (ak_poM hm (ak_nJ fs + 1 + r.length)).2) : ak_S).1 110 105 = 2 := ak_up_at1
    omega
  have hN : N < 4000 := by omega
  have p6 := sp0.1.2.1.2.2.2.2.2.1
  have N100 := sp0.1.2.1.2.2.2.2.1.2.1
  have z7 := p6.1
  have s16 := (p6.2.2.2 i hi).2.1
  have s0 := (p6.2.2.2 i hi).2.2.2.1
  have sN := (p6.2.2.2 i hi).2.2.2.2
  clear p6
  have M40 : c.Mt ≤ 40 := (ak_tx_z sp0.1.2).2.2.2.2.2.2.2
  have M4 := sp0.1.2.1.2.2.2.2.2.2.1.2.1
  have hnmM : hm.1 129 (150 * c.us + i) = c.m0.1 129 (150 * c.us + i) := sp0.2.1.2 129 _ (by unfold ak_tmI; omega)
  have hnmC : hc.1 (ak_T c.s + 16) i = c.m0.1 129 (150 * c.us + i) := ((sp0.2.1.1 _ _ (by omega) (by omega)).1).trans s16
  have hM4 : hc.1 (ak_T c.s) 4 = (c.Mt : Int) := ((sp0.2.1.1 _ _ (by omega) (by omega)).1).trans M4
  obtain ⟨nm, enm⟩ : ∃ nm : Int, nm = c.m0.1 129 (150 * c.us + i) := ⟨_, rfl⟩
  rw [← enm] at hnmM hnmC s0 sN
  have hT := ak_T_bd hs
  have O4 := sp0.2.2.1.1
  obtain ⟨hO1, hO2, hO3⟩ := sp0.2.2.1.2.2.2.2.1
  obtain ⟨o, eo, oO⟩ := ak_ofv_ok vk2 O4
  have ob1 := (sp0.2.2.1.2.2.2.2.2 o oO).1
  have ob2 := (sp0.2.2.1.2.2.2.2.2 o oO).2.1
  have ob3 := (sp0.2.2.1.2.2.2.2.2 o oO).2.2.1
  have us2 := sp0.2.2.2.2.2.2.1.1
  have us3 := sp0.2.2.2.2.2.2.1.2.1
  have spA := ak_tk_SP (t := fs.length) (pc := f.pc) (n := ak_nJ fs + 1 + r.length) sp0 h104 hN
  have AO : ∀ q k, ¬ (q = 32 ∧ k = 12) → ¬ (q = 72 ∧ k = fs.length) → (ak_tkA hc fs.length f.pc N).1 q k = hc.1 q k := fun q k a b => ak_tkA_o a b
  have AJ : ∀ q k, ¬ (q = 64 ∧ k = 2) → (ak_tkA hc fs.length f.pc N).2.1 q k = hc.2.1 q k := fun q k a => ak_tkA_J a
  obtain ⟨Av1, Av2, Av3, Av4⟩ := ak_tkA_v (hc := hc) (t := fs.length) (pc := f.pc) (N := N)
  have gC0 : ∀ (Q : ak_S → Prop) (X : Nat → ak_S → Prop), ak_MV e 0 (d + 38) (ak_rc c.s ρ1 ρ2) 91 [am_r 32, am_i (i : Int)] (ak_tkA hc fs.length f.pc N) Q (fun _ _ => False) → ak_MV e 0 (d + 40) (ak_rc c.s ρ1 ρ2) 72 [am_r 32] hc Q X := fun Q X q => by
    refine ak_o72 (d := d + 39) (o := 20) w h2 (fun z => absurd z (by decide)) (fun _ z => absurd z (by decide)) (fun _ _ => ?_) (fun z => absurd z (by decide)) (fun z => absurd z (by decide)) (fun z => absurd z (by decide))
    rw [h3]
    exact ak_MV_of (Nat.le_of_ble_eq_true rfl) (am_k85_0 hs (am_s76 (d := d + 37) (n := N) hs (j2.trans h104) (by omega) (fun _ => ⟨fun _ => ⟨fun z => absurd rfl z, fun _ => q⟩, fun z => absurd z (by decide)⟩) (fun z => absurd z (by omega))))
  generalize ak_tkA hc fs.length f.pc N = hA at spA AO AJ Av1 Av2 Av3 Av4 gC0
  obtain ⟨hP, eP⟩ : ∃ hP : ak_S, hP = ak_szC (ak_szC hA (ak_nV fs + 1)) (ak_nV fs) := ⟨_, rfl⟩
  have PO : ∀ q k, ¬ (q = 32 ∧ k = 10) → hP.1 q k = hA.1 q k := fun q k a => by rw [eP]; exact (ak_szC_o a).trans (ak_szC_o a)
  have P10 : hP.1 32 10 = (ak_nV fs : Int) := by rw [eP]; exact ak_szC_v
  have P2 : hP.2 = hA.2 := by rw [eP]; rfl
  have spP : ak_SPP c g (ak_rms (f :: fs)) hP (ak_tkB hm (ak_nJ fs + 1 + r.length) N) := ak_SP_fr spA (fun q k h => ⟨PO q k (by unfold ak_stC at h; omega), by rw [P2]⟩) (fun _ _ _ => ⟨rfl, rfl⟩)
  have BO : ∀ q k, ¬ (q = 110 ∧ (k = 104 ∨ k = 132)) → (ak_tkB hm (ak_nJ fs + 1 + r.length) N).1 q k = hm.1 q k := fun q k a => ak_tkB_o a
  obtain ⟨Bv1, Bv2, Bv3⟩ := ak_tkB_v (hm := hm) (n := ak_nJ fs + 1 + r.length) (N := N)
  obtain ⟨E, Et, hS, mS, wd, st, ⟨q1, q2, q3, q4⟩, uC, uM, goC, goM⟩ := lk_use (e := e) (d := d + 33) (ρ := ak_rc c.s ρ1 ρ2) (ρ2 := ρ) (i := i) (s := g.sh o) (nm := nm) (st := 0) spP.2.2.1.2 spP.2.2.2.1 hi ob1 (by decide) ((BO _ _ (by omega)).trans hnmM)
  have spS := ak_SP_use spP wd st uC uM
  have C : ∀ q k, ¬ (q = 32 ∧ (k = 10 ∨ k = 12)) → ¬ (q = 72 ∧ k = fs.length) → ¬ (q = 33 ∧ (k = 9 ∨ k = 10 ∨ k = 14)) → ¬ (42 ≤ q ∧ q ≤ 47) → hS.1 q k = hc.1 q k := fun q k a1 a2 a3 a4 => (uC.1 q k a3 (by omega) (by omega) (by omega)).trans ((PO q k (by omega)).trans (AO q k (by omega) a2))
  have CJ : ∀ q k, q ≠ 41 → q ≠ 46 → ¬ (q = 64 ∧ k = 2) → hS.2.1 q k = hc.2.1 q k := fun q k a1 a2 a3 => (uC.2.1 q k a1 a2).trans (by rw [P2]; exact AJ q k a3)
  have S12 : hS.1 32 12 = (fs.length : Int) := (uC.1 _ _ (by omega) (by omega) (by omega) (by omega)).trans ((PO _ _ (by omega)).trans Av3)
  have S72 : hS.1 72 fs.length = ((f.pc + 1 : Nat) : Int) := (uC.1 _ _ (by omega) (by omega) (by omega) (by omega)).trans ((PO _ _ (by omega)).trans Av4)
  have S10 : hS.1 32 10 = (ak_nV fs : Int) := (uC.1 _ _ (by omega) (by omega) (by omega) (by omega)).trans P10
  have S22 : hS.2.2 = hc.2.2 := uC.2.2.trans (by rw [P2]; exact Av2)
  have SM : hS.1 (ak_T c.s) 4 = (c.Mt : Int) := (C _ _ (by omega) (by omega) (by omega) (by omega)).trans hM4
  have M : ∀ q k, ¬ (q = 110 ∧ (k = 64 ∨ k = 67 ∨ k = 69 ∨ k = 70 ∨ k = 78 ∨ k = 104 ∨ k = 132)) → ¬ (154 ≤ q ∧ q ≤ 168) → mS.1 q k = hm.1 q k := fun q k a1 a2 => (uM.1 q k (by omega) a2).trans (BO q k (by omega))
  have M2 : mS.2 = hm.2 := uM.2.trans Bv3
  have M104 : mS.1 110 104 = ((N + 1 : Nat) : Int) := (uM.1 _ _ (by omega) (by omega)).trans Bv1
  have M132 : mS.1 110 132 = ((ak_nJ fs + 1 + r.length : Nat) : Int) := (uM.1 _ _ (by omega) (by omega)).trans Bv2
  have kcS : ak_kpC g (ak_rms (f :: fs)) fs.length (ak_nV fs) hc hS := ⟨fun q k h => C q k (by omega) (by omega) (by omega) (by omega), fun q k h => CJ q k (by omega) (by omega) (by omega), fun y hy => ⟨C _ _ (by omega) (by omega) (by omega) (by omega), C _ _ (by omega) (by omega) (by omega) (by omega), CJ _ _ (by omega) (by omega) (by omega)⟩⟩
  have kmS : ak_kpM (ak_nJ fs + 1 + r.length) (ak_nT fs) hm mS := ⟨fun q k h => M q k (by omega) (by omega), fun q k h => by rw [M2]⟩
  have hg : ak_gle g (ak_gE g E Et) (ak_rms (f :: fs)) := ak_gle_refl w
  have RC := fun (Q : ak_S → Prop) (X : Nat → ak_S → Prop) nf fd => gC0 Q X (am_c91 (d := d + 33) hs ((AO _ _ (by omega) (by omega)).trans d5) (by omega) eP ((AO _ _ (by omega) (by omega)).trans p1) ((AJ _ _ (by omega)).trans p2) ((AO _ _ (by omega) (by omega)).trans hO2) hO1 vk2 eo (by omega) (by omega) ((AO _ _ (by omega) (by omega)).trans hnmC) ((AO _ _ (by omega) (by omega)).trans ob2) goC q1 q2 SM M40 nf fd)
  have RM := fun (Q : ak_S → Prop) (X : Nat → ak_S → Prop) nf fd => g293 Q X (am_m295 (d := d + 33) (h1 := ak_tkB hm (ak_nJ fs + 1 + r.length) N) (us := c.us) (O := g.O) (B := g.B) (a := g.sh o) (i := i) (T0 := ak_nT fs) rfl ((ak_poM_o (by omega)).trans h104) hN ((ak_poM_o (by omega)).trans o3) y18 ((yO 117 (by omega) (by omega)).trans h117) (by omega) ((ak_poM_o (by omega)).trans e3) (by omega) ((ak_poM_o (by omega)).trans p4) p5 hO1 vk2 eo (by omega) ((ak_poM_o (by omega)).trans ob3) (fun Q X q => goM Q X q) q3 q4 ((M _ _ (by omega) (by omega)).trans e3) ((M _ _ (by omega) (by omega)).trans ((yq 117 (by omega) (by omega)).trans h117)) ((M _ _ (by omega) (by omega)).trans us3) us2 ((M _ _ (by omega) (by omega)).trans hnmM) nf fd)
  have FAIL : ∀ (kd s x : Int), ak_vok g.O g.B s x → (∀ (Q : ak_S → Prop) (X : Nat → ak_S → Prop), ak_MV e 0 (d + 37) (ak_rc c.s ρ1 ρ2) 77 [am_r 32, am_i kd, am_i s, am_l x] hS Q (fun _ _ => False) → ak_MV e 0 (d + 40) (ak_rc c.s ρ1 ρ2) 72 [am_r 32] hc Q X) → (∀ (Q : ak_S → Prop) (X : Nat → ak_S → Prop), ak_MV e 1 (d + 37) ρ 269 [am_r 110, am_i kd, am_i s, am_l x] mS Q (fun _ _ => False) → ak_MV e 1 (d + 40) ρ 293 [am_r 110, am_i (y : Int)] (ak_poM hm (ak_nJ fs + 1 + r.length)) Q X) → ak_OUT e d ρ1 ρ2 ρ c (ak_Phi hm (f :: fs)) W hc hm := fun kd s x vk' gC gM =>
    ak_OUTf (g' := ak_gE g E Et) (kd := kd) (s := s) (x := x) w fj (by omega) (by omega) spS hg kcS kmS ((C _ _ (by omega) (by omega) (by omega) (by omega)).trans o1) S12 M132 ((M _ _ (by omega) (by omega)).trans o3) vk' cnt (by rw [M104, h104]; omega) (fun q a b => M 110 q (by omega) (by omega)) S22 (fun hcX h Q X q => gC Q X (ak_MV_deep (show d + 30 ≤ d + 37 by omega) (h _ _ q))) (fun hm' h => job _ (fun Q X q => by rw [hy]; exact gM Q X (ak_MV_deep (show d + 25 ≤ d + 37 by omega) (h _ _ q))))
  clear spA spP AO AJ PO BO uC uM st goC goM gC0 g293
  by_cases g0 : (ak_lu g.T g.sh g.O (g.sh o) nm 0).1 < 0
  · exact FAIL 1 1 nm (ak_vkn (by omega)) (fun Q X q => RC Q X (fun _ => q) (fun z => absurd g0 (by omega))) (fun Q X q => RM Q X (fun _ => ak_MV_deep (show d + 37 ≤ d + 38 by omega) q) (fun z => absurd g0 (by omega)))
  have g0 : 0 ≤ (ak_lu g.T g.sh g.O (g.sh o) nm 0).1 := by omega
  obtain ⟨i', iO, ei, lk, bb1, bb2⟩ := ak_lu_at wd oO g0
  obtain ⟨k, k12, kz, r153, h34, r238, D⟩ := ak_slot2 (stt := 0) wd iO lk
  have r88 : ∀ (Q : Int → ak_S → Prop) (X : Nat → ak_S → Prop), Q ((12 * i' + k : Nat) : Int) hS → ak_MI e 0 (d + 37) (ak_rc c.s ρ1 ρ2) 88 [am_r 32, am_i (o : Int), am_i nm, am_i (ak_lu g.T g.sh g.O (g.sh o) nm 0).1, am_i (ak_lu g.T g.sh g.O (g.sh o) nm 0).2] hS Q X := fun Q X q => am_s88 (d := d + 35) hs ei (by omega) k12 h34 (fun Q X q => r153 e (d + 35) _ Q X q) q
  have r238' := fun Q X q => r238 e (d + 37) ρ Q X q
  rcases D with ⟨m3, n4, hx0⟩ | ⟨m3, e4, hm4⟩
  · -- it is set
    have CFo : ∀ q n, ¬ (q = 35 ∧ n = 12 * i' + k) → ((am_up hS.1 35 (12 * i' + k) (hS.1 108 (ak_nV fs + 1)), am_up hS.2.1 36 (12 * i' + k) (hS.2.1 109 (ak_nV fs + 1)), hS.2.2) : ak_S).1 q n = hS.1 q n := fun q n a => ak_up_out1 a
    have CFJ : ∀ q n, ¬ (q = 36 ∧ n = 12 * i' + k) → ((am_up hS.1 35 (12 * i' + k) (hS.1 108 (ak_nV fs + 1)), am_up hS.2.1 36 (12 * i' + k) (hS.2.1 109 (ak_nV fs + 1)), hS.2.2) : ak_S).2.1 q n = hS.2.1 q n := fun q n a => ak_up_out a
    have CFv : ((am_up hS.1 35 (12 * i' + k) (hS.1 108 (ak_nV fs + 1)), am_up hS.2.1 36 (12 * i' + k) (hS.2.1 109 (ak_nV fs + 1)), hS.2.2) : ak_S).1 35 (12 * i' + k) = v.2.1 ∧ ((am_up hS.1 35 (12 * i' + k) (hS.1 108 (ak_nV fs + 1)), am_up hS.2.1 36 (12 * i' + k) (hS.2.1 109 (ak_nV fs + 1)), hS.2.2) : ak_S).2.1 36 (12 * i' + k) = v.2.2 := ⟨ak_up_at1.trans ((C _ _ (by omega) (by omega) (by omega) (by omega)).trans r1), (show am_up hS.2.1 36 (12 * i' + k) (hS.2.1 109 (ak_nV fs + 1)) 36 (12 * i' + k) = _ from ak_up_at).trans ((CJ _ _ (by omega) (by omega) (by omega)).trans r2)⟩
    have MFo : ∀ q n, ¬ (q = 145 ∧ n = 12 * i' + k) → ¬ (q = 110 ∧ n = 127) → ((am_up (am_up mS.1 145 (12 * i' + k) (mS.1 199 (ak_nT fs + 1))) 110 127 (ak_nT fs : Int), am_up mS.2.1 146 (12 * i' + k) (mS.2.1 200 (ak_nT fs + 1)), mS.2.2) : ak_S).1 q n = mS.1 q n := fun q n a b => (ak_up_out1 b).trans (ak_up_out a)
    have MFJ : ∀ q n, ¬ (q = 146 ∧ n = 12 * i' + k) → ((am_up (am_up mS.1 145 (12 * i' + k) (mS.1 199 (ak_nT fs + 1))) 110 127 (ak_nT fs : Int), am_up mS.2.1 146 (12 * i' + k) (mS.2.1 200 (ak_nT fs + 1)), mS.2.2) : ak_S).2.1 q n = mS.2.1 q n := fun q n a => ak_up_out a
    have MFv : ((am_up (am_up mS.1 145 (12 * i' + k) (mS.1 199 (ak_nT fs + 1))) 110 127 (ak_nT fs : Int), am_up mS.2.1 146 (12 * i' + k) (mS.2.1 200 (ak_nT fs + 1)), mS.2.2) : ak_S).1 145 (12 * i' + k) = v.2.1 ∧ ((am_up (am_up mS.1 145 (12 * i' + k) (mS.1 199 (ak_nT fs + 1))) 110 127 (ak_nT fs : Int), am_up mS.2.1 146 (12 * i' + k) (mS.2.1 200 (ak_nT fs + 1)), mS.2.2) : ak_S).2.1 146 (12 * i' + k) = v.2.2 ∧ ((am_up (am_up mS.1 145 (12 * i' + k) (mS.1 199 (ak_nT fs + 1))) 110 127 (ak_nT fs : Int), am_up mS.2.1 146 (12 * i' + k) (mS.2.1 200 (ak_nT fs + 1)), mS.2.2) : ak_S).1 110 127 = (ak_nT fs : Int) :=
      ⟨(ak_up_out1 (by omega)).trans (ak_up_at.trans ((M _ _ (by omega) (by omega)).trans r4)), (show am_up mS.2.1 146 (12 * i' + k) (mS.2.1 200 (ak_nT fs + 1)) 146 (12 * i' + k) = _ from ak_up_at).trans (by rw [M2]; exact r5), ak_up_at1⟩
    have gC : ak_cgo e (d + 40) c.s ρ1 ρ2 72 [am_r 32] hc (am_up hS.1 35 (12 * i' + k) (hS.1 108 (ak_nV fs + 1)), am_up hS.2.1 36 (12 * i' + k) (hS.2.1 109 (ak_nV fs + 1)), hS.2.2) := fun Q X q => RC Q X (fun z => absurd g0 (by omega)) (fun _ => ⟨12 * i' + k, kz, r88, Or.inl ⟨n4, q⟩⟩)
    have gM : ak_goV e (d + 40) ρ 293 [am_r 110, am_i (y : Int)] (ak_poM hm (ak_nJ fs + 1 + r.length)) (am_up (am_up mS.1 145 (12 * i' + k) (mS.1 199 (ak_nT fs + 1))) 110 127 (ak_nT fs : Int), am_up mS.2.1 146 (12 * i' + k) (mS.2.1 200 (ak_nT fs + 1)), mS.2.2) := fun Q X q => RM Q X (fun z => absurd g0 (by omega)) (fun _ => ⟨i', 12 * i' + k, ei, kz, r238', Or.inl ⟨m3, q⟩⟩)
    have CF2 : ((am_up hS.1 35 (12 * i' + k) (hS.1 108 (ak_nV fs + 1)), am_up hS.2.1 36 (12 * i' + k) (hS.2.1 109 (ak_nV fs + 1)), hS.2.2) : ak_S).2.2 = hc.2.2 := S22
    generalize ((am_up hS.1 35 (12 * i' + k) (hS.1 108 (ak_nV fs + 1)), am_up hS.2.1 36 (12 * i' + k) (hS.2.1 109 (ak_nV fs + 1)), hS.2.2) : ak_S) = hcF at CFo CFJ CFv gC CF2
    generalize ((am_up (am_up mS.1 145 (12 * i' + k) (mS.1 199 (ak_nT fs + 1))) 110 127 (ak_nT fs : Int), am_up mS.2.1 146 (12 * i' + k) (mS.2.1 200 (ak_nT fs + 1)), mS.2.2) : ak_S) = hmF at MFo MFJ MFv gM
    clear RC RM r88 r238' r153 r238 FAIL
    obtain ⟨CFv1, CFv2⟩ := CFv
    obtain ⟨MFv1, MFv2, MF127⟩ := MFv
    have wdF : ak_WD g.S g.O g.B c.Mt g.T g.sh hcF hmF := ak_WD_put wd iO k12 hx0 vk (fun q n _ b => CFo q n b) (fun n a => CFJ 36 n (by omega)) CFv1 CFv2 (fun q n a b => MFo q n b (by omega)) (fun n a => MFJ 146 n (by omega)) MFv1 MFv2
    have spF : ak_SPP c (ak_gE g E Et) (ak_rms (f :: fs)) hcF hmF := ak_SP_put spS wdF (fun q k h a => CFo q k (by omega)) (fun q k h a => CFJ q k (by omega)) (fun q k h a => MFo q k (by omega) (by unfold ak_stM at h; omega)) (fun q k h a => MFJ q k (by omega))
    have D1 : ∀ q k, ¬ (q = 32 ∧ (k = 10 ∨ k = 12)) → ¬ (q = 72 ∧ k = fs.length) → ¬ (33 ≤ q ∧ q ≤ 47) → hcF.1 q k = hc.1 q k := fun q k a1 a2 a3 => (CFo q k (by omega)).trans (C q k a1 a2 (by omega) (by omega))
    have D2 : ∀ q k, ¬ (33 ≤ q ∧ q ≤ 47) → ¬ (q = 64 ∧ k = 2) → hcF.2.1 q k = hc.2.1 q k := fun q k a1 a2 => (CFJ q k (by omega)).trans (CJ q k (by omega) (by omega) a2)
    have E1 : ∀ q k, ¬ (q = 110 ∧ (k = 64 ∨ k = 67 ∨ k = 69 ∨ k = 70 ∨ k = 78 ∨ k = 104 ∨ k = 127 ∨ k = 132)) → ¬ (141 ≤ q ∧ q ≤ 168) → hmF.1 q k = hm.1 q k := fun q k a1 a2 => (MFo q k (by omega) (by omega)).trans (M q k (by omega) (by omega))
    have E2 : ∀ q k, q ≠ 146 → hmF.2.1 q k = hm.2.1 q k := fun q k a => (MFJ q k (by omega)).trans (by rw [M2])
    exact ak_red (g' := ak_gE g E Et) (u := [v, v2]) (l := []) (js := r) (pc' := f.pc + 1) w fj (by omega) (by omega) (by rw [fv]; rfl) (by omega) spF hg ⟨fun q k h => D1 q k (by omega) (by omega) (by omega), fun q k h => D2 q k (by omega) (by omega), fun y _ => ⟨D1 _ _ (by omega) (by omega) (by omega), D1 _ _ (by omega) (by omega) (by omega), D2 _ _ (by omega) (by omega)⟩⟩ ⟨fun q k h => E1 q k (by omega) (by omega), fun q k h => E2 q k (by omega)⟩ ((CFo _ _ (by omega)).trans S72) ((CFo _ _ (by omega)).trans S10) ((D1 _ _ (by omega) (by omega) (by omega)).trans o1) ((D1 _ _ (by omega) (by omega) (by omega)).trans o2) ((E1 _ _ (by omega) (by omega)).trans o3) MF127 ((MFo _ _ (by omega) (by omega)).trans M132)
      (ak_JS_fr (Nat.le_refl _) (Nat.le_refl _) (fun _ _ => rfl) t6 (fun q k a b _ => ⟨D1 q k (by omega) (by omega) (by omega), D2 q k (by omega) (by omega)⟩) (fun q k a b _ => E1 q k (by omega) (by omega)) (fun q k a b _ => ⟨E1 q k (by omega) (by omega), E2 q k (by omega)⟩)) ⟨rfl, rfl, rfl⟩ K (by omega) gC (job _ (fun Q X q => by rw [hy]; exact gM Q X q)) (by rw [MFo _ _ (by omega) (by omega), M104, h104]; omega) (fun q a b => by rw [E1 110 q (by omega) (by omega)]; omega) CF2
  · exact FAIL 11 0 0 ak_vk0 (fun Q X q => RC Q X (fun z => absurd g0 (by omega)) (fun _ => ⟨12 * i' + k, kz, r88, Or.inr ⟨e4, hm4, q⟩⟩)) (fun Q X q => RM Q X (fun z => absurd g0 (by omega)) (fun _ => ⟨i', 12 * i' + k, ei, kz, r238', Or.inr ⟨m3, ak_MV_of (Nat.le_of_ble_eq_true rfl) (am_k270_0 q)⟩⟩))
end SET2
