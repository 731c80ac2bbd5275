/-! the run: values that are brought -/
section LEAFV
variable {e : ak_X3} {d ρ1 ρ2 P W y : Nat} {ρ : List Nat} {c : ak_Cx} {g g' : ak_Gh} {fs fs' : List ak_Fr} {f : ak_Fr} {hc hm hc' hm' hcS hmS hcX : ak_S} {j : ak_Jb} {r js : List ak_Jb} {aw : List Bool} {s x kd : Int}
/-- a value is brought: the one's state before it is put is hcS, the other's behind it hm' -/
theorem ak_lfv (w : ak_RN c g (f :: fs) hc hm) (fj : f.js = j :: r) (hk : j.k = 1) (pc9 : f.pc < 9100) (sp : ak_SPP c g' (ak_rms (f :: fs)) hcS hm') (gl : ak_gle g g' (ak_rms (f :: fs))) (kc : ak_kpC g (ak_rms (f :: fs)) fs.length (ak_nV fs + f.vs.length) hc hcS) (km : ak_kpM (ak_nJ fs + 1 + r.length) (ak_nT fs + ak_tc f.vs) hm hm') (c72 : hcS.1 72 fs.length = ((f.pc + 1 : Nat) : Int)) (c11 : hcS.1 32 11 = -1) (c77 : hcS.1 77 10 = 0) (m105 : hm'.1 110 105 = -1)
    (m127 : hm'.1 110 127 = ((ak_nT fs + ak_tc f.vs + 1 : Nat) : Int)) (m132 : hm'.1 110 132 = ((ak_nJ fs + 1 + r.length : Nat) : Int)) (m199 : hm'.1 199 (ak_nT fs + ak_tc f.vs) = s ∧ hm'.2.1 200 (ak_nT fs + ak_tc f.vs) = x) (vk : ak_vok g'.O g'.B s x) (K : ak_K (ak_mC c.s c.h0) (ak_mM c.us c.m0) (ak_T c.s) c.us (g.mt f.r + 40 * g.lv f.r) r (f.pc + 1) (true :: f.vs.map (fun v => v.1))) (len : f.vs.length + 1 ≤ 151)
    (gC : ak_cgo e (d + 40) c.s ρ1 ρ2 72 [am_r 32] hc (ak_psC hcS (ak_nV fs + f.vs.length) s x)) (gM : ak_goV e (d + 40) ρ 282 [am_r 110, am_i j.n] (ak_poM hm (ak_nJ fs + 1 + r.length)) hm') (hsm : ak_sm hm hm') (h22 : hcS.2.2 = hc.2.2) : ak_OUT e d ρ1 ρ2 ρ c (ak_Phi hm (f :: fs)) W hc hm := by
  obtain ⟨q1, q2, q3, q4, q5, q6⟩ := ak_tj w fj
  obtain ⟨g1, g2, g3⟩ := ak_gc_of (j := j) (r := r) (by omega)
  have o105 := w.2.2.2.2
  have V := (ak_tp w).2.2.2.2.2.2.2.2.2.1
  have w' := ak_RN_val (pc' := f.pc + 1) w V q6 (by rw [fj, g1]) (by rw [fj, g2]) sp gl kc km c72 c11 c77 m105 m127 m132 m199 vk K ⟨by omega, len⟩
  refine ak_OUT1 w w' (by simp) gC (ak_job q1 (by omega) (by omega) q3 q4 (fun _ => gM) (fun z => absurd z (by omega)) (fun z => absurd z (by omega)) (fun z => absurd z (by omega)) (by omega)) ?_ (by rw [hsm 104 (Or.inl rfl)]; exact Int.le_refl _) (show hcS.2.2 = _ from h22) (fun q a b => by rw [hsm q (Or.inr ⟨a, b⟩)]; omega)
  show ak_pcs fs + (9100 - (f.pc + 1)) + 9101 * ak_gw r + 1 ≤ ak_pcs fs + (9100 - f.pc) + 9101 * ak_gw f.js
  rw [fj, g3]
  omega
theorem ak_sm_ps {n m : Nat} : ak_sm hm (ak_psM (ak_poM hm n) m s x) := fun q hq => (ak_psM_o (by omega) (by omega)).trans (ak_poM_o (by omega))
/-- a value is brought, nothing else changes -/
theorem ak_lfp (w : ak_RN c g (f :: fs) hc hm) (fj : f.js = j :: r) (hk : j.k = 1) (pc9 : f.pc < 9100) (vk : ak_vok g.O g.B s x) (K : ak_K (ak_mC c.s c.h0) (ak_mM c.us c.m0) (ak_T c.s) c.us (g.mt f.r + 40 * g.lv f.r) r (f.pc + 1) (true :: f.vs.map (fun v => v.1))) (len : f.vs.length + 1 ≤ 151)
    (gC : ak_cgo e (d + 40) c.s ρ1 ρ2 72 [am_r 32] hc (ak_psC (ak_atC hc fs.length f.pc) (ak_nV fs + f.vs.length) s x)) (gM : ak_goV e (d + 40) ρ 282 [am_r 110, am_i j.n] (ak_poM hm (ak_nJ fs + 1 + r.length)) (ak_psM (ak_poM hm (ak_nJ fs + 1 + r.length)) (ak_nT fs + ak_tc f.vs) s x)) : ak_OUT e d ρ1 ρ2 ρ c (ak_Phi hm (f :: fs)) W hc hm := by
  obtain ⟨hs, l60, fU, f5, φ5, sp0, F, L, J, V, _, ⟨l1, l2, l3⟩, ⟨d2, d3, d4, d5, o1, o2⟩, ⟨e1, e2, e3, e4, e5, o3⟩, _⟩ := ak_tp w
  obtain ⟨p1, p2, p3⟩ := ak_psM_v (hm := ak_poM hm (ak_nJ fs + 1 + r.length)) (n := ak_nT fs + ak_tc f.vs) (s := s) (x := x)
  refine ak_lfv w fj hk pc9 (ak_SP_fr sp0 (fun q k h => ⟨ak_atC_o (by unfold ak_stC at h; omega) (by unfold ak_stC at h; omega), rfl⟩) (fun q k h => ⟨(ak_psM_o (fun z => h.2.2.2 (by omega)) (fun z => h.1 ⟨z.1, by omega⟩)).trans (ak_poM_o (fun z => h.1 ⟨z.1, by omega⟩)), ak_psM_J (fun z => h.2.2.2 (by omega))⟩)) (ak_gle_refl w) ak_kpC_at
    ⟨fun q k h => (ak_psM_o (by omega) (by omega)).trans (ak_poM_o (by omega)), fun q k h => ak_psM_J (by omega)⟩ ak_atC_72 ((ak_atC_o (by omega) (by omega)).trans o1) ((ak_atC_o (by omega) (by omega)).trans o2) ((ak_psM_o (by omega) (by omega)).trans ((ak_poM_o (by omega)).trans o3)) p3 ((ak_psM_o (by omega) (by omega)).trans ak_poM_v) ⟨p1, p2⟩ vk K len gC gM ak_sm_ps rfl
theorem ak_lf_num (w : ak_RN c g (f :: fs) hc hm) (fj : f.js = j :: r) (hk : j.k = 1) (hy : j.n = (y : Int)) (h114 : ak_mM c.us c.m0 114 y = 1) (h2 : ak_mC c.s c.h0 (ak_T c.s + 2) f.pc = 0) (h3 : ak_mC c.s c.h0 (ak_T c.s + 3) f.pc = ak_mM c.us c.m0 115 y) (hb : 0 ≤ ak_mM c.us c.m0 115 y ∧ ak_mM c.us c.m0 115 y < 1000000000) (K : ak_K (ak_mC c.s c.h0) (ak_mM c.us c.m0) (ak_T c.s) c.us (g.mt f.r + 40 * g.lv f.r) r (f.pc + 1) (true :: f.vs.map (fun v => v.1))) (len : f.vs.length + 1 ≤ 151) : ak_OUT e d ρ1 ρ2 ρ c (ak_Phi hm (f :: fs)) W hc hm := by
  obtain ⟨hs, l60, fU, f5, φ5, sp0, F, L, J, V, _, ⟨l1, l2, l3⟩, ⟨d2, d3, d4, d5, o1, o2⟩, ⟨e1, e2, e3, e4, e5, o3⟩, ⟨x1, x2, x3, x4⟩, _⟩ := ak_tp w
  obtain ⟨b1, b2, b3, b4⟩ := ak_cd sp0 h2 (by decide)
  obtain ⟨y18, yq⟩ := ak_nde (q0 := 114) sp0 (by omega) (by rw [h114]; decide)
  have yO : ∀ q, 114 ≤ q → q ≤ 120 → (ak_poM hm (ak_nJ fs + 1 + r.length)).1 q y = ak_mM c.us c.m0 q y := fun q a b => (ak_poM_o (by omega)).trans (yq q a b)
  have yb : 0 ≤ (y : Int) ∧ (y : Int) < 18000 := by omega
  have tb : 0 ≤ (fs.length : Int) ∧ (fs.length : Int) < 60 := by omega
  refine ak_lfp (s := 1) (x := ak_mM c.us c.m0 115 y) w fj hk (by omega) ⟨by decide, fun h => absurd h (by decide), fun h => absurd h (by decide), by omega, by omega⟩ K len (fun Q X q => ?_) (fun Q X q => ?_)
  · refine ak_o72 (d := d + 39) (o := 0) w h2 (fun _ => ?_) (fun z => absurd z (by decide)) (fun z => absurd z (by decide)) (fun z => absurd z (by decide)) (fun z => absurd z (by decide)) (fun z => absurd z (by decide))
    refine ak_MV_of (Nat.le_of_ble_eq_true rfl) (am_k78_0 hs ?_)
    rw [ak_atC_12, ak_natn]
    refine ⟨tb, trivial, fun z => absurd z (by omega), fun _ => ?_, fun z => absurd z (by omega), fun z => absurd z (by omega), fun z => absurd z (by omega), fun z => absurd z (by omega), fun z => absurd z (by omega), fun z => absurd z (by omega), trivial⟩
    rw [h3]
    exact am_s73 (d := d + 37) hs ((ak_atC_o (by omega) (by omega)).trans d5) (by omega) q
  · rw [hy]
    refine ak_MV_of (Nat.le_of_ble_eq_true rfl) (am_k282_0 ?_)
    rw [ak_natn, yO 114 (by omega) (by omega), h114]
    refine ⟨yb, trivial, fun z => absurd z (by omega), fun _ => ?_, fun z => absurd z (by omega), fun z => absurd z (by omega), fun z => absurd z (by omega), fun z => absurd z (by omega), fun z => absurd z (by omega), fun z => absurd z (by omega), fun z => absurd z (by omega), fun z => absurd z (by omega), fun z => absurd z (by omega), fun z => absurd z (by omega), fun z => absurd z (by omega), fun z => absurd z (by omega), trivial⟩
    rw [yO 115 (by omega) (by omega)]
    refine ⟨yb, ?_⟩
    exact am_s265 (d := d + 38) ((ak_poM_o (by omega)).trans e3) (by omega) q
theorem ak_lf_nil (w : ak_RN c g (f :: fs) hc hm) (fj : f.js = j :: r) (hk : j.k = 1) (hy : j.n = (y : Int)) (h114 : ak_mM c.us c.m0 114 y = 2) (h2 : ak_mC c.s c.h0 (ak_T c.s + 2) f.pc = 1)  (K : ak_K (ak_mC c.s c.h0) (ak_mM c.us c.m0) (ak_T c.s) c.us (g.mt f.r + 40 * g.lv f.r) r (f.pc + 1) (true :: f.vs.map (fun v => v.1))) (len : f.vs.length + 1 ≤ 151) : ak_OUT e d ρ1 ρ2 ρ c (ak_Phi hm (f :: fs)) W hc hm := by
  obtain ⟨hs, l60, fU, f5, φ5, sp0, F, L, J, V, _, ⟨l1, l2, l3⟩, ⟨d2, d3, d4, d5, o1, o2⟩, ⟨e1, e2, e3, e4, e5, o3⟩, ⟨x1, x2, x3, x4⟩, _⟩ := ak_tp w
  obtain ⟨b1, b2, b3, b4⟩ := ak_cd sp0 h2 (by decide)
  obtain ⟨y18, yq⟩ := ak_nde (q0 := 114) sp0 (by omega) (by rw [h114]; decide)
  have yO : ∀ q, 114 ≤ q → q ≤ 120 → (ak_poM hm (ak_nJ fs + 1 + r.length)).1 q y = ak_mM c.us c.m0 q y := fun q a b => (ak_poM_o (by omega)).trans (yq q a b)
  have yb : 0 ≤ (y : Int) ∧ (y : Int) < 18000 := by omega
  have tb : 0 ≤ (fs.length : Int) ∧ (fs.length : Int) < 60 := by omega
  refine ak_lfp (s := 0) (x := 0) w fj hk (by omega) ⟨by decide, fun h => absurd h (by decide), fun h => absurd h (by decide), by decide, by decide⟩ K len (fun Q X q => ?_) (fun Q X q => ?_)
  · refine ak_o72 (d := d + 39) (o := 1) w h2 (fun _ => ?_) (fun z => absurd z (by decide)) (fun z => absurd z (by decide)) (fun z => absurd z (by decide)) (fun z => absurd z (by decide)) (fun z => absurd z (by decide))
    refine ak_MV_of (Nat.le_of_ble_eq_true rfl) (am_k78_0 hs ?_)
    rw [ak_atC_12, ak_natn]
    refine ⟨tb, trivial, fun z => absurd z (by omega), fun z => absurd z (by omega), fun _ => ?_, fun z => absurd z (by omega), fun z => absurd z (by omega), fun z => absurd z (by omega), fun z => absurd z (by omega), fun z => absurd z (by omega), trivial⟩
    exact am_s73 (d := d + 37) hs ((ak_atC_o (by omega) (by omega)).trans d5) (by omega) q
  · rw [hy]
    refine ak_MV_of (Nat.le_of_ble_eq_true rfl) (am_k282_0 ?_)
    rw [ak_natn, yO 114 (by omega) (by omega), h114]
    refine ⟨yb, trivial, fun z => absurd z (by omega), fun z => absurd z (by omega), fun _ => ?_, fun z => absurd z (by omega), fun z => absurd z (by omega), fun z => absurd z (by omega), fun z => absurd z (by omega), fun z => absurd z (by omega), fun z => absurd z (by omega), fun z => absurd z (by omega), fun z => absurd z (by omega), fun z => absurd z (by omega), fun z => absurd z (by omega), fun z => absurd z (by omega), trivial⟩
    exact am_s265 (d := d + 38) ((ak_poM_o (by omega)).trans e3) (by omega) q
theorem ak_lf_lobby (w : ak_RN c g (f :: fs) hc hm) (fj : f.js = j :: r) (hk : j.k = 1) (hy : j.n = (y : Int)) (h114 : ak_mM c.us c.m0 114 y = 4) (h2 : ak_mC c.s c.h0 (ak_T c.s + 2) f.pc = 3)  (K : ak_K (ak_mC c.s c.h0) (ak_mM c.us c.m0) (ak_T c.s) c.us (g.mt f.r + 40 * g.lv f.r) r (f.pc + 1) (true :: f.vs.map (fun v => v.1))) (len : f.vs.length + 1 ≤ 151) : ak_OUT e d ρ1 ρ2 ρ c (ak_Phi hm (f :: fs)) W hc hm := by
  obtain ⟨hs, l60, fU, f5, φ5, sp0, F, L, J, V, _, ⟨l1, l2, l3⟩, ⟨d2, d3, d4, d5, o1, o2⟩, ⟨e1, e2, e3, e4, e5, o3⟩, ⟨x1, x2, x3, x4⟩, _⟩ := ak_tp w
  obtain ⟨b1, b2, b3, b4⟩ := ak_cd sp0 h2 (by decide)
  obtain ⟨y18, yq⟩ := ak_nde (q0 := 114) sp0 (by omega) (by rw [h114]; decide)
  have yO : ∀ q, 114 ≤ q → q ≤ 120 → (ak_poM hm (ak_nJ fs + 1 + r.length)).1 q y = ak_mM c.us c.m0 q y := fun q a b => (ak_poM_o (by omega)).trans (yq q a b)
  have yb : 0 ≤ (y : Int) ∧ (y : Int) < 18000 := by omega
  have tb : 0 ≤ (fs.length : Int) ∧ (fs.length : Int) < 60 := by omega
  refine ak_lfp (s := 2) (x := 0) w fj hk (by omega) ⟨by decide, fun _ => ⟨by decide, by have := sp0.2.2.1.1; omega⟩, fun h => absurd h (by decide), by decide, by decide⟩ K len (fun Q X q => ?_) (fun Q X q => ?_)
  · refine ak_o72 (d := d + 39) (o := 3) w h2 (fun _ => ?_) (fun z => absurd z (by decide)) (fun z => absurd z (by decide)) (fun z => absurd z (by decide)) (fun z => absurd z (by decide)) (fun z => absurd z (by decide))
    refine ak_MV_of (Nat.le_of_ble_eq_true rfl) (am_k78_0 hs ?_)
    rw [ak_atC_12, ak_natn]
    refine ⟨tb, trivial, fun z => absurd z (by omega), fun z => absurd z (by omega), fun z => absurd z (by omega), fun z => absurd z (by omega), fun _ => ?_, fun z => absurd z (by omega), fun z => absurd z (by omega), fun z => absurd z (by omega), trivial⟩
    exact am_s73 (d := d + 37) hs ((ak_atC_o (by omega) (by omega)).trans d5) (by omega) q
  · rw [hy]
    refine ak_MV_of (Nat.le_of_ble_eq_true rfl) (am_k282_0 ?_)
    rw [ak_natn, yO 114 (by omega) (by omega), h114]
    refine ⟨yb, trivial, fun z => absurd z (by omega), fun z => absurd z (by omega), fun z => absurd z (by omega), fun z => absurd z (by omega), fun _ => ?_, fun z => absurd z (by omega), fun z => absurd z (by omega), fun z => absurd z (by omega), fun z => absurd z (by omega), fun z => absurd z (by omega), fun z => absurd z (by omega), fun z => absurd z (by omega), fun z => absurd z (by omega), fun z => absurd z (by omega), trivial⟩
    exact am_s265 (d := d + 38) ((ak_poM_o (by omega)).trans e3) (by omega) q
theorem ak_lf_self (w : ak_RN c g (f :: fs) hc hm) (fj : f.js = j :: r) (hk : j.k = 1) (hy : j.n = (y : Int)) (h114 : ak_mM c.us c.m0 114 y = 3) (h2 : ak_mC c.s c.h0 (ak_T c.s + 2) f.pc = 2)  (K : ak_K (ak_mC c.s c.h0) (ak_mM c.us c.m0) (ak_T c.s) c.us (g.mt f.r + 40 * g.lv f.r) r (f.pc + 1) (true :: f.vs.map (fun v => v.1))) (len : f.vs.length + 1 ≤ 151) : ak_OUT e d ρ1 ρ2 ρ c (ak_Phi hm (f :: fs)) W hc hm := by
  obtain ⟨hs, l60, fU, f5, φ5, sp0, F, L, J, V, _, ⟨l1, l2, l3⟩, ⟨d2, d3, d4, d5, o1, o2⟩, ⟨e1, e2, e3, e4, e5, o3⟩, ⟨x1, x2, x3, x4⟩, _⟩ := ak_tp w
  obtain ⟨b1, b2, b3, b4⟩ := ak_cd sp0 h2 (by decide)
  obtain ⟨y18, yq⟩ := ak_nde (q0 := 114) sp0 (by omega) (by rw [h114]; decide)
  have yO : ∀ q, 114 ≤ q → q ≤ 120 → (ak_poM hm (ak_nJ fs + 1 + r.length)).1 q y = ak_mM c.us c.m0 q y := fun q a b => (ak_poM_o (by omega)).trans (yq q a b)
  have yb : 0 ≤ (y : Int) ∧ (y : Int) < 18000 := by omega
  have tb : 0 ≤ (fs.length : Int) ∧ (fs.length : Int) < 60 := by omega
  obtain ⟨_, ⟨hU, h53, h178, hlv⟩, _⟩ := sp0.2.2.2.2.1.2.1 _ fU
  obtain ⟨hv1, hv2, hv3, _⟩ := (sp0.2.2.2.2.1.2.1 _ hU).2.2.2.2.2.2 hlv
  have h5 : g.hr f.r < 560 := (sp0.2.2.2.2.1.1.2.2.2.1 _).mp (List.mem_append_right _ hU)
  have φh : g.φ (g.hr f.r) < 564 := sp0.2.2.2.2.1.1.2.2.2.2.1 _ hU
  refine ak_lfp (s := hc.1 56 (g.hr f.r)) (x := hc.2.1 57 (g.hr f.r)) w fj hk (by omega) hv3 K len (fun Q X q => ?_) (fun Q X q => ?_)
  · refine ak_o72 (d := d + 39) (o := 2) w h2 (fun _ => ?_) (fun z => absurd z (by decide)) (fun z => absurd z (by decide)) (fun z => absurd z (by decide)) (fun z => absurd z (by decide)) (fun z => absurd z (by decide))
    refine ak_MV_of (Nat.le_of_ble_eq_true rfl) (am_k78_0 hs ?_)
    rw [ak_atC_12, ak_natn]
    refine ⟨tb, trivial, fun z => absurd z (by omega), fun z => absurd z (by omega), fun z => absurd z (by omega), fun _ => ?_, fun z => absurd z (by omega), fun z => absurd z (by omega), fun z => absurd z (by omega), fun z => absurd z (by omega), trivial⟩
    rw [ak_atC_o (q := 70) (by omega) (by omega), F.1.2.1, ak_natn, ak_atC_o (q := 53) (by omega) (by omega), h53, ak_natn, ak_atC_o (q := 56) (by omega) (by omega), show (ak_atC hc fs.length f.pc).2.1 57 (g.hr f.r) = hc.2.1 57 (g.hr f.r) from rfl]
    exact ⟨by omega, by omega, by omega, by omega, am_s73 (d := d + 37) hs ((ak_atC_o (by omega) (by omega)).trans d5) (by omega) q⟩
  · rw [hy]
    refine ak_MV_of (Nat.le_of_ble_eq_true rfl) (am_k282_0 ?_)
    rw [ak_natn, yO 114 (by omega) (by omega), h114]
    refine ⟨yb, trivial, fun z => absurd z (by omega), fun z => absurd z (by omega), fun z => absurd z (by omega), fun _ => ?_, fun z => absurd z (by omega), fun z => absurd z (by omega), fun z => absurd z (by omega), fun z => absurd z (by omega), fun z => absurd z (by omega), fun z => absurd z (by omega), fun z => absurd z (by omega), fun z => absurd z (by omega), fun z => absurd z (by omega), fun z => absurd z (by omega), trivial⟩
    rw [ak_poM_o (q := 110) (k := 102) (by omega), e1, ak_natn, ak_poM_o (q := 178) (by omega), h178, ak_natn, ak_poM_o (q := 180) (by omega), show (ak_poM hm (ak_nJ fs + 1 + r.length)).2.1 181 (g.φ (g.hr f.r)) = hm.2.1 181 (g.φ (g.hr f.r)) from rfl, ← hv1, ← hv2]
    exact ⟨by omega, by omega, by omega, by omega, am_s265 (d := d + 38) ((ak_poM_o (by omega)).trans e3) (by omega) q⟩
/-- the rooms around a room, on both sides -/
theorem ak_hops {V : List Nat} (sp : ak_SPP c g V hc hm) : ∀ (k x : Nat), x ∈ g.Us → k ≤ g.lv x → ak_out hc k x ∈ g.Us ∧ g.lv (ak_out hc k x) + k = g.lv x ∧ ∀ i, i < k → ak_out hc i x < 560 ∧ 0 ≤ hc.1 52 (ak_out hc i x) ∧ g.φ (ak_out hc i x) < 564 ∧ hm.1 177 (g.φ (ak_out hc i x)) = (g.φ (ak_out hc (i + 1) x) : Int) := by
  intro k
  induction k with
  | zero => intro x hx _; exact ⟨hx, rfl, fun i hi => absurd hi (Nat.not_lt_zero _)⟩
  | succ k ih =>
    intro x hx hk
    obtain ⟨_, _, r3, _⟩ := sp.2.2.2.2.1.2.1 x hx
    rcases r3 with ⟨h0, _⟩ | ⟨r', a1, a2, a3, a4, a5, a6, a7, a8⟩
    · omega
    · have e : ak_out hc (k + 1) x = ak_out hc k r' := by
        show ak_out hc k (hc.1 52 x).toNat = _
        rw [a2, Int.toNat_natCast]
      obtain ⟨i1, i2, i3⟩ := ih r' a1 (by omega)
      rw [e]
      refine ⟨i1, by omega, fun i hi => ?_⟩
      cases i with
      | zero =>
        refine ⟨(sp.2.2.2.2.1.1.2.2.2.1 _).mp (List.mem_append_right _ hx), by show 0 ≤ hc.1 52 x; rw [a2]; omega, sp.2.2.2.2.1.1.2.2.2.2.1 _ hx, ?_⟩
        show hm.1 177 (g.φ x) = (g.φ (hc.1 52 x).toNat : Int)
        rw [a2, Int.toNat_natCast]
        exact a3
      | succ i =>
        have e2 : ∀ i, ak_out hc (i + 1) x = ak_out hc i r' := fun i => by
          show ak_out hc i (hc.1 52 x).toNat = _
          rw [a2, Int.toNat_natCast]
        rw [e2 i, e2 (i + 1)]
        exact i3 i (by omega)
theorem ak_out_fr {h h' : ak_S} (fr : ∀ k, h'.1 52 k = h.1 52 k) : ∀ (k x : Nat), ak_out h' k x = ak_out h k x := by
  intro k
  induction k with
  | zero => intro x; rfl
  | succ k ih =>
    intro x
    show ak_out h' k (h'.1 52 x).toNat = ak_out h k (h.1 52 x).toNat
    rw [fr, ih]
theorem ak_out_s {h : ak_S} : ∀ (i x : Nat), ak_out h (i + 1) x = (h.1 52 (ak_out h i x)).toNat := by
  intro i
  induction i with
  | zero => intro x; rfl
  | succ i ih =>
    intro x
    show ak_out h (i + 1) (h.1 52 x).toNat = _
    rw [ih]
    rfl
theorem ak_lf_word {hops slot : Nat} (w : ak_RN c g (f :: fs) hc hm) (fj : f.js = j :: r) (hk : j.k = 1) (hy : j.n = (y : Int)) (h114 : ak_mM c.us c.m0 114 y = 7) (h2 : ak_mC c.s c.h0 (ak_T c.s + 2) f.pc = 6) (h3 : ak_mC c.s c.h0 (ak_T c.s + 3) f.pc = ((16 * hops + slot : Nat) : Int)) (h5 : ak_mM c.us c.m0 115 y = (hops : Int)) (h6 : ak_mM c.us c.m0 116 y = (slot : Int)) (hh : hops ≤ g.lv f.r) (hsl : slot < 12) (K : ak_K (ak_mC c.s c.h0) (ak_mM c.us c.m0) (ak_T c.s) c.us (g.mt f.r + 40 * g.lv f.r) r (f.pc + 1) (true :: f.vs.map (fun v => v.1))) (len : f.vs.length + 1 ≤ 151) : ak_OUT e d ρ1 ρ2 ρ c (ak_Phi hm (f :: fs)) W hc hm := by
  obtain ⟨hs, l60, fU, f5, φ5, sp0, F, L, J, V, _, ⟨l1, l2, l3⟩, ⟨d2, d3, d4, d5, o1, o2⟩, ⟨e1, e2, e3, e4, e5, o3⟩, ⟨x1, x2, x3, x4⟩, _, lt1⟩ := ak_tp w
  obtain ⟨b1, b2, b3, b4⟩ := ak_cd sp0 h2 (by decide)
  obtain ⟨y18, yq⟩ := ak_nde (q0 := 114) sp0 (by omega) (by rw [h114]; decide)
  have yO : ∀ q, 114 ≤ q → q ≤ 120 → (ak_poM hm (ak_nJ fs + 1 + r.length)).1 q y = ak_mM c.us c.m0 q y := fun q a b => (ak_poM_o (by omega)).trans (yq q a b)
  have yb : 0 ≤ (y : Int) ∧ (y : Int) < 18000 := by omega
  have tb : 0 ≤ (fs.length : Int) ∧ (fs.length : Int) < 60 := by omega
  obtain ⟨hU, hl, hi⟩ := ak_hops sp0 hops f.r fU hh
  have hw := (sp0.2.2.2.2.1.2.1 _ hU).1 slot hsl
  have h56 : ak_out hc hops f.r < 560 := (sp0.2.2.2.2.1.1.2.2.2.1 _).mp (List.mem_append_right _ hU)
  have φh : g.φ (ak_out hc hops f.r) < 564 := sp0.2.2.2.2.1.1.2.2.2.2.1 _ hU
  have ao : ∀ k, ak_out (ak_atC hc fs.length f.pc) k f.r = ak_out hc k f.r := fun k => ak_out_fr (fun i => ak_atC_o (by omega) (by omega)) k f.r
  refine ak_lfp (s := hc.1 50 (12 * ak_out hc hops f.r + slot)) (x := hc.2.1 51 (12 * ak_out hc hops f.r + slot)) w fj hk (by omega) hw.2.2 K len (fun Q X q => ?_) (fun Q X q => ?_)
  · refine ak_o72 (d := d + 39) (o := 6) w h2 (fun _ => ?_) (fun z => absurd z (by decide)) (fun z => absurd z (by decide)) (fun z => absurd z (by decide)) (fun z => absurd z (by decide)) (fun z => absurd z (by decide))
    refine ak_MV_of (Nat.le_of_ble_eq_true rfl) (am_k78_0 hs ?_)
    rw [ak_atC_12, ak_natn]
    refine ⟨tb, trivial, fun z => absurd z (by omega), fun z => absurd z (by omega), fun z => absurd z (by omega), fun z => absurd z (by omega), fun z => absurd z (by omega), fun z => absurd z (by omega), fun z => absurd z (by omega), fun _ => ?_, trivial⟩
    rw [ak_atC_o (q := 70) (by omega) (by omega), F.1.2.1, h3]
    refine am_s145 (d := d + 37) f5 (by omega) hsl (fun k hk => ?_) ?_ (by rw [ao]; exact h56)
    · rw [ao, ak_atC_o (by omega) (by omega)]
      exact ⟨(hi k hk).1, (hi k hk).2.1⟩
    · rw [ao, ak_natn, ak_atC_o (by omega) (by omega), show (ak_atC hc fs.length f.pc).2.1 51 (12 * ak_out hc hops f.r + slot) = hc.2.1 51 (12 * ak_out hc hops f.r + slot) from rfl]
      exact ⟨by omega, by omega, am_s73 (d := d + 37) hs ((ak_atC_o (by omega) (by omega)).trans d5) (by omega) q⟩
  · rw [hy]
    refine ak_MV_of (Nat.le_of_ble_eq_true rfl) (am_k282_0 ?_)
    rw [ak_natn, yO 114 (by omega) (by omega), h114, ak_poM_o (q := 110) (k := 102) (by omega), e1]
    refine ⟨yb, trivial, fun z => absurd z (by omega), fun z => absurd z (by omega), fun z => absurd z (by omega), fun z => absurd z (by omega), fun z => absurd z (by omega), fun z => absurd z (by omega), fun z => absurd z (by omega), fun _ => ?_, fun z => absurd z (by omega), fun z => absurd z (by omega), fun z => absurd z (by omega), fun z => absurd z (by omega), fun z => absurd z (by omega), fun z => absurd z (by omega), trivial⟩
    have lp : ∀ (n i : Nat), i + n = hops → ak_W0 e 1 (d + 39) 282 ρ 179 [some (am_r 110), some (am_i (y : Int)), some (am_i (g.φ (ak_out hc i f.r) : Int)), some (am_i (i : Int))] [] (ak_poM hm (ak_nJ fs + 1 + r.length)) (ak_qv Q X) := by
      intro n
      induction n with
      | zero =>
        intro i hi0
        have : i = hops := by omega
        subst this
        refine am_k282_179 ?_
        rw [ak_natn, yO 115 (by omega) (by omega), h5, yO 116 (by omega) (by omega), h6, show am_w32 (am_w32 (12 * (g.φ (ak_out hc i f.r) : Int)) + (slot : Int)) = ((12 * g.φ (ak_out hc i f.r) + slot : Nat) : Int) from by
          rw [ak_w (12 * (g.φ (ak_out hc i f.r) : Int)) (by omega), ak_w _ (by omega)]
          omega, ak_natn, ak_poM_o (by omega), show (ak_poM hm (ak_nJ fs + 1 + r.length)).2.1 185 (12 * g.φ (ak_out hc i f.r) + slot) = hm.2.1 185 (12 * g.φ (ak_out hc i f.r) + slot) from rfl, ← hw.1, ← hw.2.1]
        exact ⟨yb, fun _ => ⟨yb, by omega, yb, by omega, am_s265 (d := d + 38) ((ak_poM_o (by omega)).trans e3) (by omega) q⟩, fun z => absurd z (by omega)⟩
      | succ n ih =>
        intro i hi0
        refine am_k282_179 ?_
        have a := hi i (by omega)
        rw [ak_natn, yO 115 (by omega) (by omega), h5, ak_natn, ak_poM_o (q := 177) (by omega), a.2.2.2, show am_w32 ((i : Int) + 1) = ((i + 1 : Nat) : Int) from by rw [ak_w _ (by omega)]; omega]
        exact ⟨yb, fun z => absurd z (by omega), fun _ => ⟨by omega, ih (i + 1) (by omega)⟩⟩
    exact lp hops 0 (by omega)
end LEAFV
