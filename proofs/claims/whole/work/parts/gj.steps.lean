/-! the run: steps, what they have in common -/
section STP
variable {e : ak_X3} {d ρ1 ρ2 P W : Nat} {ρ : List Nat} {c : ak_Cx} {g g' : ak_Gh} {fs fs' : List ak_Fr} {f : ak_Fr} {hc hm hc' hm' hcS hmS hcX : ak_S} {j : ak_Jb} {r js : List ak_Jb} {aw : List Bool} {s x kd : Int}
theorem ak_gc_of (h : j.k < 9) : ak_gc (j :: r) = ak_gc r ∧ ak_kc (j :: r) = ak_kc r ∧ ak_gw (j :: r) = ak_gw r := by
  refine ⟨?_, ?_, ?_⟩
  · show ak_gc r + (if 9 ≤ j.k then 1 else 0) = _
    rw [if_neg (by omega)]; rfl
  · show ak_kc r + (if j.k = 11 then 1 else 0) = _
    rw [if_neg (by omega)]; rfl
  · show ak_gw r + (if j.k = 9 then 2 else if j.k = 10 then 1 else 0) = _
    rw [if_neg (by omega), if_neg (by omega)]; rfl
/-- what is known of the topmost frame -/
theorem ak_tp (w : ak_RN c g (f :: fs) hc hm) : (c.s = 0 ∨ c.s = 1) ∧ fs.length + 1 ≤ 60 ∧ f.r ∈ g.Us ∧ f.r < 560 ∧ g.φ f.r < 564 ∧ ak_SPP c g (ak_rms (f :: fs)) hc hm ∧ ak_F0 g hc hm fs f.r ∧ ak_LO c g hc hm [true] fs ∧
    ak_JS g.O g.B g.φ (f.r :: ak_rms fs) fs.length (ak_nJ fs + 1) (ak_nG fs) (ak_nK fs) (ak_nT fs) hc hm f.js ∧ ak_VS g.O g.B (hc.1 56 (g.hr f.r)) (hc.2.1 57 (g.hr f.r)) (ak_nV fs) (ak_nT fs) hc hm f.vs ∧ ak_K (ak_mC c.s c.h0) (ak_mM c.us c.m0) (ak_T c.s) c.us (g.mt f.r + 40 * g.lv f.r) f.js f.pc (f.vs.map (fun v => v.1)) ∧
    (f.js.length ≤ 6165 ∧ f.vs.length ≤ 151 ∧ ak_gc f.js ≤ 21) ∧ (hc.1 69 7 = ((f :: fs).length : Int) ∧ hc.1 69 8 = ak_nH hc (f :: fs) ∧ hc.1 77 4 = ((ak_nG fs + ak_gc f.js : Nat) : Int) ∧ hc.1 32 10 = ((ak_nV fs + f.vs.length : Nat) : Int) ∧ hc.1 32 11 = -1 ∧ hc.1 77 10 = 0) ∧
    (hm.1 110 102 = (g.φ f.r : Int) ∧ hm.1 110 103 = ((fs.length + 1 : Nat) : Int) ∧ hm.1 110 127 = ((ak_nT fs + ak_tc f.vs : Nat) : Int) ∧ hm.1 110 132 = ((ak_nJ fs + 1 + f.js.length : Nat) : Int) ∧ hm.1 110 139 = ((ak_nK fs + ak_kc f.js : Nat) : Int) ∧ hm.1 110 105 = -1) ∧
    (ak_nV fs + f.vs.length ≤ 9060 ∧ ak_nT fs + ak_tc f.vs ≤ 9060 ∧ ak_nJ fs + 1 + f.js.length < 369990 ∧ ak_nG fs + ak_gc f.js ≤ 1260) ∧ (hc.1 72 fs.length = (f.pc : Int) ∧ g.mt f.r + 40 * g.lv f.r < 1000) := by
  obtain ⟨sp, ⟨⟨d1, d2, d3, d4, d5⟩, ⟨e1, e2, e3, e4, e5⟩, lf, lo⟩, o1, o2, o3⟩ := w
  have hV := ak_nV_le lo
  have hJ := ak_nJ_le lo
  have hG := ak_nG_le lo
  have F := ak_F1_F0 lf
  have lf' := lf
  obtain ⟨⟨_, _, _, a4, _⟩, _, a, b, k, l1, l2, l3⟩ := lf'
  rw [List.length_nil] at l2
  rw [List.length_cons] at d1
  have ht := ak_tc_le (l := f.vs)
  have fU := F.1.1
  exact ⟨sp.1.1, d1, fU, (sp.2.2.2.2.1.1.2.2.2.1 _).mp (List.mem_append_right _ fU), sp.2.2.2.2.1.1.2.2.2.2.1 _ fU, sp, F, lo, a, b, k, ⟨l1, by omega, l3⟩, ⟨d2, d3, d4, d5, o1, o2⟩, ⟨e1, e2, e3, e4, e5, o3⟩, ⟨by omega, by omega, by omega, by omega⟩, a4, (sp.2.2.2.2.1.2.1 _ fU).2.2.2.2.2.1.2.2⟩
/-- the topmost job -/
theorem ak_tj (w : ak_RN c g (f :: fs) hc hm) (fj : f.js = j :: r) : hm.1 110 132 = ((ak_nJ fs + 1 + r.length + 1 : Nat) : Int) ∧ ak_nJ fs + 1 + r.length < 369980 ∧ hm.1 201 (ak_nJ fs + 1 + r.length) = (j.k : Int) ∧ hm.1 202 (ak_nJ fs + 1 + r.length) = j.n ∧ r.length + 1 ≤ 6165 ∧
    ak_JS g.O g.B g.φ (f.r :: ak_rms fs) fs.length (ak_nJ fs + 1) (ak_nG fs) (ak_nK fs) (ak_nT fs) hc hm r := by
  obtain ⟨_, l60, _, _, _, _, _, lo, J, _, _, ⟨l1, _, _⟩, _, ⟨_, _, _, m, _⟩, _⟩ := ak_tp w
  have hJ := ak_nJ_le lo
  rw [fj] at J m l1
  rw [List.length_cons] at m l1
  exact ⟨m, by omega, J.1.1, J.1.2.1, l1, J.2.2.2⟩
/-- one turn of the one, one round of the other -/
theorem ak_OUT1 (w : ak_RN c g (f :: fs) hc hm) (w' : ak_RN c g' fs' hc' hm') (ne : fs' ≠ []) (gC : ak_cgo e (d + 40) c.s ρ1 ρ2 72 [am_r 32] hc hc') (gM : ak_mgo e (d + 40) ρ hm hm') (hP : ak_pcs fs' + 1 ≤ ak_pcs (f :: fs)) (h104 : hm.1 110 104 ≤ hm'.1 110 104) (h22 : hc'.2.2 = hc.2.2) (cnt : ∀ q, 109 ≤ q → q ≤ 111 → hm'.1 110 q ≤ hm.1 110 q + 1) : ak_OUT e d ρ1 ρ2 ρ c (ak_Phi hm (f :: fs)) W hc hm := by
  have o11 := w.2.2.1
  refine Or.inl ⟨1, g', fs', hc', hm', w', ne, ak_turn1 w.1.1.1 (by omega) gC w'.2.2.2.1, gM, ?_, fun h => absurd h (by decide), h22, fun q a b => cnt q a b⟩
  unfold ak_Phi
  omega
/-- steps taken by the other alone -/
theorem ak_OUT0 (w : ak_RN c g (f :: fs) hc hm) (w' : ak_RN c g' fs' hc hm') (ne : fs' ≠ []) (gM : ak_mgo e (d + 40) ρ hm hm') (hP : ak_pcs fs' ≤ ak_pcs (f :: fs)) (hs : ak_sm hm hm') (hW : ak_wtop fs' < W) : ak_OUT e d ρ1 ρ2 ρ c (ak_Phi hm (f :: fs)) W hc hm := by
  refine Or.inl ⟨0, g', fs', hc, hm', w', ne, ak_turns_0, gM, ?_, fun _ => hW, rfl, fun q a b => by rw [hs q (Or.inr ⟨a, b⟩)]; omega⟩
  unfold ak_Phi
  rw [hs 104 (Or.inl rfl)]
  omega
/-- the step fails -/
theorem ak_OUTf (w : ak_RN c g (f :: fs) hc hm) (fj : f.js = j :: r) (hk : j.k < 9) (pc9 : f.pc < 9100) (sp : ak_SPP c g' (ak_rms (f :: fs)) hcS hmS) (gl : ak_gle g g' (ak_rms (f :: fs))) (kc : ak_kpC g (ak_rms (f :: fs)) fs.length (ak_nV fs) hc hcS) (km : ak_kpM (ak_nJ fs + 1 + r.length) (ak_nT fs) hm hmS) (c11 : hcS.1 32 11 = -1) (c12 : hcS.1 32 12 = (fs.length : Int))
    (m132 : hmS.1 110 132 = ((ak_nJ fs + 1 + r.length : Nat) : Int)) (m105 : hmS.1 110 105 = -1) (vk : ak_vok g'.O g'.B s x) (cnt : hm.1 110 109 < 1000000000) (h104 : hm.1 110 104 ≤ hmS.1 110 104) (hsm : ∀ q, 109 ≤ q → q ≤ 111 → hmS.1 110 q = hm.1 110 q) (h22 : hcS.2.2 = hc.2.2)
    (gC : ∀ hcX, ak_cgo e (d + 30) c.s ρ1 ρ2 77 [am_r 32, am_i kd, am_i s, am_l x] hcS hcX → ak_cgo e (d + 40) c.s ρ1 ρ2 72 [am_r 32] hc hcX) (gM : ∀ hm', ak_goV e (d + 25) ρ 269 [am_r 110, am_i kd, am_i s, am_l x] hmS hm' → ak_mgo e (d + 40) ρ hm hm') : ak_OUT e d ρ1 ρ2 ρ c (ak_Phi hm (f :: fs)) W hc hm := by
  obtain ⟨hs, l60, fU, f5, φ5, sp0, F, L, J, V, K, ⟨l1, l2, l3⟩, ⟨d2, d3, d4, d5, o1, o2⟩, ⟨e1, e2, e3, e4, e5, o3⟩, _⟩ := ak_tp w
  rw [fj] at J K l1 l3 d4 e5
  obtain ⟨g1, g2, g3⟩ := ak_gc_of (r := r) hk
  rw [g1] at d4 l3
  rw [g2] at e5
  rw [List.length_cons] at l1
  obtain ⟨k1, k2, k3⟩ := kc
  obtain ⟨n1, n2⟩ := km
  have gf := gl.2.2 f.r (by simp [ak_rms])
  have hsub : ∀ y, y ∈ ak_rms fs → y ∈ ak_rms (f :: fs) := fun y h => by simp [ak_rms] at h ⊢; exact Or.inr h
  obtain ⟨hcX, hc', hm', q1, q2, q3, q4, q5, q6⟩ := ak_fail (e := e) (d := d) (ρ1 := ρ1) (ρ2 := ρ2) (ρ := ρ) (g := g') (js := r) (kd := kd) hs pc9 sp
    (ak_F0_fr F (fun y hy => (gl.2.2 y hy).2.1) gf.1 gf.2.2.2.1 (fun q a b h1 _ => k1 q _ (by omega)) (by rw [k1 73 _ (by omega), n1 183 _ (by omega)]; exact F.1.2.2.2.1) (k3 f.r (by simp [ak_rms])).1 (n1 176 _ (by omega)) (fun q a b => n1 q _ (by omega)))
    (ak_LO_kp ⟨gl.1, gl.2.1, fun y hy => gl.2.2 y (hsub y hy)⟩ L (fun q k h => k1 q k (by omega)) (fun q k h => k2 q k (by omega)) (fun y hy => k3 y (hsub y hy)) (fun q k h => n1 q k (by omega)) (fun q k h => n2 q k (by omega))) l60 ((k1 69 7 (by omega)).trans d2) (by
      rw [k1 69 8 (by omega), d3]; exact (ak_nH_fr (fun k _ => k1 76 k (by omega))).symm) ((k1 77 4 (by omega)).trans d4) c11 c12
    (by rw [n1 110 102 (by omega), e1]; exact congrArg Int.ofNat gf.2.1.symm) ((n1 110 103 (by omega)).trans e2) m132 ((n1 110 139 (by omega)).trans e5) m105
    (ak_JS_fr gl.1 gl.2.1 (fun y hy => (gl.2.2 y hy).2.1) J.2.2.2 (fun q k a b _ => ⟨k1 q k (by omega), k2 q k (by omega)⟩) (fun q k a b _ => n1 q k (by omega)) (fun q k a b _ => ⟨n1 q k (by omega), n2 q k (by omega)⟩))
    (by rw [gf.2.2.2.1, gf.2.2.2.2]; exact ak_K_tl K) (by omega) l3 (by rw [fj, g3]; exact Nat.le_refl _) vk (by rw [hsm 109 (by omega) (by omega)]; exact cnt)
  rcases q6 with ⟨g2', fs', h1, h2, h3, h4, h5⟩ | ⟨o, h⟩
  · refine Or.inl ⟨1, g2', fs', hc', hm', h1, h2, ak_turnU hs (by omega) (gC _ q1) q2 q3, gM _ q4, ?_, fun h => absurd h (by decide), q5.trans h22, fun q a b => by rw [← hsm q a b]; exact h5 q a b⟩
    unfold ak_Phi
    omega
  · refine Or.inr ⟨1, hc', hm', o, h, ?_, ak_turnU hs (by omega) (gC _ q1) q2 q3, gM _ q4, q5.trans h22⟩
    unfold ak_Phi
    show 1 ≤ _ + (ak_pcs fs + (9100 - f.pc) + 9101 * ak_gw f.js)
    omega
/-- the step is a jump -/
theorem ak_st_jump {b : Nat} {sh : List Bool} (w : ak_RN c g (f :: fs) hc hm) (h30 : ak_mC c.s c.h0 (ak_T c.s + 2) f.pc = 30) (h3 : ak_mC c.s c.h0 (ak_T c.s + 3) f.pc = (b : Int)) (hb : f.pc < b) (K : ak_K (ak_mC c.s c.h0) (ak_mM c.us c.m0) (ak_T c.s) c.us (g.mt f.r + 40 * g.lv f.r) f.js b (f.vs.map (fun v => v.1))) : ak_OUT e d ρ1 ρ2 ρ c (ak_Phi hm (f :: fs)) W hc hm := by
  obtain ⟨hs, l60, fU, f5, φ5, sp0, F, L, J, V, _, ⟨l1, l2, l3⟩, ⟨d2, d3, d4, d5, o1, o2⟩, ⟨e1, e2, e3, e4, e5, o3⟩, _⟩ := ak_tp w
  obtain ⟨b1, b2, b3, b4⟩ := ak_cd sp0 h30 (by decide)
  have AO := fun q k h1 h2 => ak_atC_o (hc := hc) (t := fs.length) (pc := f.pc) (q := q) (k := k) h1 h2
  have EO : ∀ q k, ¬ (q = 32 ∧ k = 12) → ¬ (q = 72 ∧ k = fs.length) → ((am_up (ak_atC hc fs.length f.pc).1 72 fs.length (b : Int), (ak_atC hc fs.length f.pc).2) : ak_S).1 q k = hc.1 q k := fun q k a b' => (ak_up_out1 b').trans (AO q k a b')
  have gC : ak_cgo e (d + 40) c.s ρ1 ρ2 72 [am_r 32] hc (am_up (ak_atC hc fs.length f.pc).1 72 fs.length (b : Int), (ak_atC hc fs.length f.pc).2) := fun Q X q => by
    refine ak_o72 (d := d + 39) (o := 30) w h30 (fun z => absurd z (by decide)) (fun z z2 => absurd z2 (by decide)) (fun z z2 => absurd z2 (by decide)) (fun z z2 => absurd z2 (by decide)) (fun _ _ => ?_) (fun z => absurd z (by decide))
    refine ak_MV_of (Nat.le_of_ble_eq_true rfl) (am_k96_0 hs ⟨trivial, fun z => absurd rfl z.2.1, fun z => absurd z (by decide), fun _ => ?_, trivial⟩)
    rw [ak_atC_12, ak_natn, h3]
    exact ⟨by omega, q⟩
  have E72 : ((am_up (ak_atC hc fs.length f.pc).1 72 fs.length (b : Int), (ak_atC hc fs.length f.pc).2) : ak_S).1 72 fs.length = (b : Int) := ak_up_at1
  have EJ : ((am_up (ak_atC hc fs.length f.pc).1 72 fs.length (b : Int), (ak_atC hc fs.length f.pc).2) : ak_S).2 = hc.2 := rfl
  generalize ((am_up (ak_atC hc fs.length f.pc).1 72 fs.length (b : Int), (ak_atC hc fs.length f.pc).2) : ak_S) = hcF at EO gC E72 EJ
  have w' : ak_RN c g (⟨f.r, b, f.js, f.vs⟩ :: fs) hcF hm := ak_RN_red (j := ak_nJ fs + 1) w V (ak_JS_fr (Nat.le_refl _) (Nat.le_refl _) (fun _ _ => rfl) J (fun q k a b' _ => ⟨EO q k (by omega) (by omega), by rw [EJ]⟩) (fun _ _ _ _ _ => rfl) (fun _ _ _ _ _ => ⟨rfl, rfl⟩)) rfl rfl (ak_SP_fr sp0 (fun q k h => ⟨EO q k (by unfold ak_stC at h; omega) (by unfold ak_stC at h; omega), by rw [EJ]⟩) (fun _ _ _ => ⟨rfl, rfl⟩)) (ak_gle_refl w)
    ⟨fun q k h => EO q k (by omega) (by omega), fun _ _ _ => by rw [EJ], fun y _ => ⟨EO _ _ (by omega) (by omega), EO _ _ (by omega) (by omega), by rw [EJ]⟩⟩ ak_kpM_refl (Nat.le_refl _) E72 ((EO _ _ (by omega) (by omega)).trans d5) ((EO _ _ (by omega) (by omega)).trans o1) ((EO _ _ (by omega) (by omega)).trans o2) o3 e3 e4 K ⟨l1, l2⟩
  refine ak_OUT1 w w' (by simp) gC ak_mgo_0 ?_ (Int.le_refl _) (by rw [EJ]) (fun q _ _ => by omega)
  show ak_pcs fs + (9100 - b) + 9101 * ak_gw f.js + 1 ≤ ak_pcs fs + (9100 - f.pc) + 9101 * ak_gw f.js
  omega
end STP
