/-! the run: a value goes to a frame that awaits it -/
section GIVE
variable {e : ak_X3} {d ρ1 ρ2 P W : Nat} {ρ : List Nat} {c : ak_Cx} {g g' : ak_Gh} {fs : List ak_Fr} {f : ak_Fr} {hc hm hc' hm' hcS hmS : ak_S} {j : ak_Jb} {r js : List ak_Jb} {aw : List Bool} {s x kd : Int}
theorem ak_goS_o {h : ak_S} {a b s w f' : Int} {q i : Nat} (n : ¬ (q = 77 ∧ (10 ≤ i ∧ i ≤ 14))) : (ak_goS h a b s w f').1 q i = h.1 q i := by
  unfold ak_goS
  exact (ak_up_out1 (by omega)).trans ((ak_up_out (by omega)).trans ((ak_up_out (by omega)).trans (ak_up_out (by omega))))
theorem ak_goS_J {h : ak_S} {a b s w f' : Int} {q i : Nat} (n : q ≠ 77) : (ak_goS h a b s w f').2.1 q i = h.2.1 q i := ak_up_out (by omega)
theorem ak_goS_v {h : ak_S} {a b s w f' : Int} : (ak_goS h a b s w f').1 77 10 = a ∧ (ak_goS h a b s w f').1 77 11 = b ∧ (ak_goS h a b s w f').1 77 12 = s ∧ (ak_goS h a b s w f').2.1 77 13 = w ∧ (ak_goS h a b s w f').1 77 14 = f' := by
  unfold ak_goS
  simp [am_up]
/-- the other's way is an end -/
def ak_gvM (h : ak_S) (f' s x : Int) : ak_S := (am_up (am_up (am_up h.1 110 133 2) 110 134 f') 110 135 s, am_up h.2.1 110 136 x, h.2.2)
theorem ak_gvM_o {h : ak_S} {f' s x : Int} {q i : Nat} (n : ¬ (q = 110 ∧ (133 ≤ i ∧ i ≤ 135))) : (ak_gvM h f' s x).1 q i = h.1 q i := by
  unfold ak_gvM
  exact (ak_up_out1 (by omega)).trans ((ak_up_out (by omega)).trans (ak_up_out (by omega)))
theorem ak_gvM_J {h : ak_S} {f' s x : Int} {q i : Nat} (n : ¬ (q = 110 ∧ i = 136)) : (ak_gvM h f' s x).2.1 q i = h.2.1 q i := ak_up_out n
theorem ak_gvM_v {h : ak_S} {f' s x : Int} : (ak_gvM h f' s x).1 110 133 = 2 ∧ (ak_gvM h f' s x).1 110 134 = f' ∧ (ak_gvM h f' s x).1 110 135 = s ∧ (ak_gvM h f' s x).2.1 110 136 = x := by
  unfold ak_gvM
  simp [am_up]
/-- what is being left when a value is given -/
theorem ak_give_UI (pc9 : f.pc < 9100) (sp : ak_SPP c g (ak_rms (f :: fs)) hcS hmS) (F : ak_F0 g hcS hmS fs f.r) (L : ak_LO c g hcS hmS [true] fs) (l60 : fs.length + 1 ≤ 60) (c7 : hcS.1 69 7 = ((f :: fs).length : Int)) (c8 : hcS.1 69 8 = ak_nH hcS (f :: fs)) (c4 : hcS.1 77 4 = ((ak_nG fs + ak_gc js : Nat) : Int)) (c11 : hcS.1 32 11 = -1)
    (m102 : hmS.1 110 102 = (g.φ f.r : Int)) (m103 : hmS.1 110 103 = ((fs.length + 1 : Nat) : Int)) (m132 : hmS.1 110 132 = ((ak_nJ fs + 1 + js.length : Nat) : Int)) (m139 : hmS.1 110 139 = ((ak_nK fs + ak_kc js : Nat) : Int)) (m105 : hmS.1 110 105 = -1)
    (J : ak_JS g.O g.B g.φ (f.r :: ak_rms fs) fs.length (ak_nJ fs + 1) (ak_nG fs) (ak_nK fs) (ak_nT fs) hcS hmS js) (K : ∃ pc sh, ak_K (ak_mC c.s c.h0) (ak_mM c.us c.m0) (ak_T c.s) c.us (g.mt f.r + 40 * g.lv f.r) js pc sh) (jl : js.length ≤ 6165) (jg : ak_gc js ≤ 21) (gw : ak_gw js ≤ ak_gw f.js) (vk : ak_vok g.O g.B s x)
    {p q : List Nat} {r' : Nat} (hr : f.r :: ak_rms fs = p ++ r' :: q) : ak_UI c g [] f js fs (ak_pcs (f :: fs)) (ak_gvM hmS (g.φ r' : Int) s x) (ak_goS hcS 2 0 s x (q.length : Int)) (ak_gvM hmS (g.φ r' : Int) s x) := by
  have fU := F.1.1
  have CO := fun q' i a => ak_goS_o (h := hcS) (a := 2) (b := 0) (s := s) (w := x) (f' := (q.length : Int)) (q := q') (i := i) a
  have CJ := fun q' i a => ak_goS_J (h := hcS) (a := 2) (b := 0) (s := s) (w := x) (f' := (q.length : Int)) (q := q') (i := i) a
  obtain ⟨v1, v2, v3, v4, v5⟩ := ak_goS_v (h := hcS) (a := 2) (b := 0) (s := s) (w := x) (f' := (q.length : Int))
  generalize ak_goS hcS 2 0 s x (q.length : Int) = hcX at CO CJ v1 v2 v3 v4 v5
  have MO := fun q' i a => ak_gvM_o (h := hmS) (f' := (g.φ r' : Int)) (s := s) (x := x) (q := q') (i := i) a
  have MJ := fun q' i a => ak_gvM_J (h := hmS) (f' := (g.φ r' : Int)) (s := s) (x := x) (q := q') (i := i) a
  obtain ⟨w2, w3, w5, w6⟩ := ak_gvM_v (h := hmS) (f' := (g.φ r' : Int)) (s := s) (x := x)
  generalize ak_gvM hmS (g.φ r' : Int) s x = hmX at MO MJ w2 w3 w5 w6
  obtain ⟨row1, row2, row3, row4⟩ := ak_LO_row L
  have e73 : hcS.1 73 fs.length = hmS.1 183 (g.φ f.r) := F.1.2.2.2.1
  have nH : ak_nH hcX (f :: fs) = ak_nH hcS (f :: fs) := ak_nH_fr (fun k _ => CO 76 k (by omega))
  have spX : ak_SPP c g (ak_rms (f :: fs)) hcX hmX := ak_SP_fr sp (fun q k h => ⟨CO q k (by unfold ak_stC at h; omega), CJ q k (by unfold ak_stC at h; omega)⟩) (fun q k h => ⟨MO q k (fun z => h.1 ⟨z.1, by omega⟩), MJ q k (fun z => h.1 ⟨z.1, by omega⟩)⟩)
  refine ⟨⟨spX, ?_, fun p z q h => ?_, (CO _ _ (by omega)).trans c7, ?_, by rw [List.nil_append, List.length_cons]; exact l60⟩, ⟨(CO _ _ (by omega)).trans c4, (CO _ _ (by omega)).trans c11, by rw [v1]; decide, v1.trans w2.symm, Or.inr (Or.inr ⟨v1, v3.trans w5.symm, v4.trans w6.symm, by rw [v3, v4]; exact vk, p, r', q, hr, v5, w3⟩)⟩,
    ⟨(MO _ _ (by omega)).trans m102, (MO _ _ (by omega)).trans m132, (MO _ _ (by omega)).trans m139, (MO _ _ (by omega)).trans m105, (MO _ _ (by omega)).trans m103⟩, ⟨fun _ _ _ _ => rfl, fun _ _ _ => rfl, fun y hy => by cases hy⟩,
    ⟨ak_F0_fr F (fun _ _ => rfl) fU rfl (fun q a b _ _ => CO q _ (by omega)) (by rw [CO _ _ (by omega), MO _ _ (by omega)]; exact e73) (CO _ _ (by omega)) (MO _ _ (by omega)) (fun q a b => MO q _ (by omega)),
      ak_JS_fr (Nat.le_refl _) (Nat.le_refl _) (fun _ _ => rfl) J (fun q k a b _ => ⟨CO q k (by omega), CJ q k (by omega)⟩) (fun q k a b _ => MO q k (by omega)) (fun q k a b _ => ⟨MO q k (by omega), MJ q k (by omega)⟩), K, jl, jg⟩,
    ak_LO_kp ⟨Nat.le_refl _, Nat.le_refl _, fun y hy => ⟨(row3 y hy).1, rfl, rfl, rfl, rfl⟩⟩ L (fun q k h => CO q k (by omega)) (fun q k h => CJ q k (by omega)) (fun y hy => ⟨CO _ _ (by omega), CO _ _ (by omega), CJ _ _ (by omega)⟩) (fun q k h => MO q k (by omega)) (fun q k h => MJ q k (by omega)), ?_⟩
  · refine List.nodup_cons.mpr ⟨fun h => ?_, row4⟩
    have h1 := row3 f.r h
    have h2 := F.1.2.2.2.2.2.2.2.2
    omega
  · rw [CO _ _ (by omega), CO _ _ (by omega)]
    cases p with
    | nil =>
      rw [List.nil_append, List.nil_append] at h
      obtain ⟨rfl, rfl⟩ := List.cons.inj h
      exact ⟨F.1.2.1, F.1.2.2.2.2.2.2.2.1, fU⟩
    | cons p0 p =>
      have h2 := (List.cons.inj h).2
      have := row1 p z q h2
      exact ⟨this.1, this.2.1, this.2.2.1⟩
  · rw [CO _ _ (by omega), c8]
    exact nH.symm
  · show ak_pcs fs + 9101 * ak_gw js + 1 ≤ ak_pcs fs + (9100 - f.pc) + 9101 * ak_gw f.js
    have := Nat.mul_le_mul_left 9101 gw
    omega
/-- a value is given -/
theorem ak_give (hs : c.s = 0 ∨ c.s = 1) (pc9 : f.pc < 9100) (sp : ak_SPP c g (ak_rms (f :: fs)) hcS hmS) (F : ak_F0 g hcS hmS fs f.r) (L : ak_LO c g hcS hmS [true] fs) (l60 : fs.length + 1 ≤ 60) (c7 : hcS.1 69 7 = ((f :: fs).length : Int)) (c8 : hcS.1 69 8 = ak_nH hcS (f :: fs)) (c4 : hcS.1 77 4 = ((ak_nG fs + ak_gc js : Nat) : Int)) (c11 : hcS.1 32 11 = -1)
    (m102 : hmS.1 110 102 = (g.φ f.r : Int)) (m103 : hmS.1 110 103 = ((fs.length + 1 : Nat) : Int)) (m132 : hmS.1 110 132 = ((ak_nJ fs + 1 + js.length : Nat) : Int)) (m139 : hmS.1 110 139 = ((ak_nK fs + ak_kc js : Nat) : Int)) (m105 : hmS.1 110 105 = -1)
    (J : ak_JS g.O g.B g.φ (f.r :: ak_rms fs) fs.length (ak_nJ fs + 1) (ak_nG fs) (ak_nK fs) (ak_nT fs) hcS hmS js) (K : ∃ pc sh, ak_K (ak_mC c.s c.h0) (ak_mM c.us c.m0) (ak_T c.s) c.us (g.mt f.r + 40 * g.lv f.r) js pc sh) (jl : js.length ≤ 6165) (jg : ak_gc js ≤ 21) (gw : ak_gw js ≤ ak_gw f.js) (vk : ak_vok g.O g.B s x)
    {p q : List Nat} {r' : Nat} (hr : f.r :: ak_rms fs = p ++ r' :: q) :
    ∃ hcX hc' hm' : ak_S, ak_cgo e (d + 30) c.s ρ1 ρ2 54 [am_r 77, am_i 2, am_i 0, am_i s, am_l x, am_i (q.length : Int)] hcS hcX ∧ hcX.1 77 10 ≠ 0 ∧ ak_cgo e (d + 40) c.s ρ1 ρ2 100 [am_r 32] hcX hc' ∧ ak_goV e (d + 25) ρ 279 [am_r 110, am_i (g.φ r' : Int), am_i s, am_l x] hmS hm' ∧ hc'.2.2 = hcS.2.2 ∧
      ((∃ g' fs', ak_RN c g' fs' hc' hm' ∧ fs' ≠ [] ∧ ak_pcs fs' + 1 ≤ ak_pcs (f :: fs) ∧ ak_sm hmS hm') ∨ ∃ o, ak_FN e d ρ1 ρ2 ρ c o hc' hm') := by
  have UI := ak_give_UI pc9 sp F L l60 c7 c8 c4 c11 m102 m103 m132 m139 m105 J K jl jg gw vk hr
  have hG := ak_nG_le L
  obtain ⟨hc', hm', g1, g2, g3, g4⟩ := ak_LV (e := e) (d := d) (ρ1 := ρ1) (ρ2 := ρ2) (ρ := ρ) _ [] f js fs _ _ (Nat.le_refl _) UI
  refine ⟨_, hc', hm', fun Q X q => am_s54 (d := d + 29) q, by rw [ak_goS_v.1]; decide, fun Q X q => ak_MV_of (Nat.le_of_ble_eq_true rfl) (am_k100_0 hs (g1 0 Q X ?_ q)), fun Q X q => ak_MV_of (Nat.le_of_ble_eq_true rfl) (am_k279_0 (ak_MV_deep (show d + 21 ≤ d + 24 by omega) (ak_MV_of (Nat.le_of_ble_eq_true rfl) (am_k276_0 (g2 Q _ q))))), g3, ?_⟩
  · rw [ak_goS_o (by omega), c4]; omega
  · rcases g4 with ⟨g', fs', h1, h2, h3, h4⟩ | h
    · exact Or.inl ⟨g', fs', h1, h2, h3, fun q hq => (h4 q hq).trans (ak_gvM_o (by omega))⟩
    · exact Or.inr h
/-- a frame comes to its end -/
def ak_enE (h : ak_S) (n k f' : Nat) (x : Int) (t : Nat) : ak_S := ak_psM (am_up (ak_edM (ak_poM h n) k f').1 110 102 x, h.2) t 0 0
theorem ak_endF (hs : c.s = 0 ∨ c.s = 1) (w : ak_RN c g (f :: fs) hc hm) (pc9 : f.pc < 9100) (fj : f.js = []) (fv : f.vs = []) (sp : ak_SPP c g (ak_rms (f :: fs)) hcS hm) (F : ak_F0 g hcS hm fs f.r) (L : ak_LO c g hcS hm [true] fs) (c7 : hcS.1 69 7 = ((f :: fs).length : Int)) (c8 : hcS.1 69 8 = ak_nH hcS (f :: fs)) (c4 : hcS.1 77 4 = (ak_nG fs : Int)) (c11 : hcS.1 32 11 = -1) :
    ∃ hcX hc' hm' : ak_S, ak_cgo e (d + 30) c.s ρ1 ρ2 54 [am_r 77, am_i 2, am_i 0, am_i 0, am_l 0, am_i (fs.length : Int)] hcS hcX ∧ hcX.1 77 10 ≠ 0 ∧ ak_cgo e (d + 40) c.s ρ1 ρ2 100 [am_r 32] hcX hc' ∧ ak_mgo e (d + 40) ρ hm hm' ∧ hc'.2.2 = hcS.2.2 ∧
      ((∃ g' fs', ak_RN c g' fs' hc' hm' ∧ fs' ≠ [] ∧ ak_pcs fs' + 1 ≤ ak_pcs (f :: fs) ∧ ak_sm hm hm') ∨ ∃ o, ak_FN e d ρ1 ρ2 ρ c o hc' hm') := by
  obtain ⟨_, ⟨⟨d1, _, _, _, _⟩, ⟨m102, m103, m127, m132, m139⟩, w1, lo⟩, _, _, m105⟩ := w
  have e1 : ak_nJ (f :: fs) = ak_nJ fs + 1 := by show ak_nJ fs + 1 + f.js.length = _; rw [fj]; rfl
  have e2 : ak_nK (f :: fs) = ak_nK fs := by show ak_nK fs + ak_kc f.js = _; rw [fj]; rfl
  have e3 : ak_nT (f :: fs) = ak_nT fs := by show ak_nT fs + ak_tc f.vs = _; rw [fv]; rfl
  rw [e1] at m132
  rw [e2] at m139
  rw [e3] at m127
  have hr : f.r :: ak_rms fs = [] ++ f.r :: ak_rms fs := rfl
  have hq : (ak_rms fs).length = fs.length := by simp [ak_rms]
  have gw0 : ak_gw f.js = 0 := by rw [fj]; rfl
  rw [List.length_cons] at d1
  have wK := w1.2.2.2.2.1
  rw [fj] at wK
  have UI := ak_give_UI (s := 0) (x := 0) (js := []) pc9 sp F L d1 c7 c8 c4 c11 m102 m103 m132 m139 m105 trivial ⟨_, _, wK⟩ (by decide) (by decide) (Nat.zero_le _) ⟨by decide, fun h => absurd h (by decide), fun h => absurd h (by decide), by decide, by decide⟩ hr
  rw [hq] at UI
  have hG := ak_nG_le L
  have hJ := ak_nJ_le L
  have hV := ak_nV_le L
  have fU := F.1.1
  have φ5 := sp.2.2.2.2.1.1.2.2.2.2.1 _ fU
  have rM := (sp.2.2.2.2.1.2.1 _ fU).2.2.2.1
  have h174 : hm.1 174 (g.φ f.r) = 0 ∨ hm.1 174 (g.φ f.r) = 1 := by omega
  -- the other's state
  have D : ∀ q i, ¬ (q = 110 ∧ (i = 103 ∨ i = 132)) → ¬ ((q = 173 ∨ q = 175) ∧ i = g.φ f.r) → (ak_edM (ak_poM hm (ak_nJ fs)) fs.length (g.φ f.r)).1 q i = hm.1 q i := fun q i a b => by
    unfold ak_edM
    exact (ak_up_out1 (by omega)).trans ((ak_up_out (by omega)).trans ((ak_up_out (by omega)).trans (ak_poM_o (by omega))))
  have D1 : (ak_edM (ak_poM hm (ak_nJ fs)) fs.length (g.φ f.r)).1 110 132 = (ak_nJ fs : Int) ∧ (ak_edM (ak_poM hm (ak_nJ fs)) fs.length (g.φ f.r)).1 110 103 = (fs.length : Int) ∧ (ak_edM (ak_poM hm (ak_nJ fs)) fs.length (g.φ f.r)).1 175 (g.φ f.r) = 0 ∧ (ak_edM (ak_poM hm (ak_nJ fs)) fs.length (g.φ f.r)).1 173 (g.φ f.r) = hm.1 174 (g.φ f.r) := by
    unfold ak_edM ak_poM
    simp [am_up]
  have goM : ak_mgo e (d + 40) ρ hm (ak_enE hm (ak_nJ fs) fs.length (g.φ f.r) (ak_fx g fs) (ak_nT fs)) := by
    intro Q X q
    refine am_k298_0 ?_
    rw [m132, show am_w32 (((ak_nJ fs + 1 : Nat) : Int) - 1) = (ak_nJ fs : Int) from by rw [ak_w _ (by omega)]; omega, ak_natn, F.2.1, F.2.2.1]
    have hb : 0 ≤ (ak_nJ fs : Int) ∧ (ak_nJ fs : Int) < 370000 := by omega
    refine ⟨fun z => absurd z (by omega), fun _ => ⟨fun z => absurd z (by rw [m105]; decide), fun _ => ⟨hb, hb, trivial, fun z => absurd z (by omega), fun z => absurd z (by omega), fun z => absurd z (by omega), fun z => absurd z (by omega), fun z => absurd z (by omega), fun z => absurd z (by omega), fun z => absurd z (by omega), fun z => absurd z (by omega), fun _ => ?_, fun z => absurd z (by omega), fun z => absurd z (by omega), trivial⟩⟩⟩
    refine am_s273 (d := d + 39) (h := ak_poM hm (ak_nJ fs)) (n := fs.length) ((ak_poM_o (by omega)).trans m103) (by omega) φ5 (by
      rw [show (ak_poM hm (ak_nJ fs)).1 174 (g.φ f.r) = hm.1 174 (g.φ f.r) from ak_poM_o (by omega)]
      exact h174) ?_
    rw [D1.1, ak_natn, D 203 _ (by omega) (by omega), F.2.2.2.1]
    exact ⟨hb, am_s265 (d := d + 39) ((ak_up_out1 (by omega)).trans ((D _ _ (by omega) (by omega)).trans m127)) (by omega) q⟩
  have EO : ∀ q i, ¬ (q = 110 ∧ (i = 102 ∨ i = 103 ∨ i = 127 ∨ i = 132)) → ¬ ((q = 173 ∨ q = 175) ∧ i = g.φ f.r) → ¬ (q = 199 ∧ i = ak_nT fs) → (ak_enE hm (ak_nJ fs) fs.length (g.φ f.r) (ak_fx g fs) (ak_nT fs)).1 q i = hm.1 q i := fun q i a b c' => by
    unfold ak_enE
    exact (ak_psM_o c' (by omega)).trans ((ak_up_out1 (by omega)).trans (D q i (by omega) b))
  have EJ : ∀ q i, ¬ (q = 200 ∧ i = ak_nT fs) → (ak_enE hm (ak_nJ fs) fs.length (g.φ f.r) (ak_fx g fs) (ak_nT fs)).2.1 q i = hm.2.1 q i := fun q i a => by
    unfold ak_enE
    exact ak_psM_J a
  have E102 : (ak_enE hm (ak_nJ fs) fs.length (g.φ f.r) (ak_fx g fs) (ak_nT fs)).1 110 102 = ak_fx g fs := by
    unfold ak_enE
    exact (ak_psM_o (by omega) (by omega)).trans ak_up_at1
  have Eo : ∀ q i, ¬ (q = 110 ∧ (i = 102 ∨ i = 127)) → q ≠ 199 → (ak_enE hm (ak_nJ fs) fs.length (g.φ f.r) (ak_fx g fs) (ak_nT fs)).1 q i = (ak_edM (ak_poM hm (ak_nJ fs)) fs.length (g.φ f.r)).1 q i := fun q i a b => by
    unfold ak_enE
    exact (ak_psM_o (fun z => b z.1) (by omega)).trans (ak_up_out1 (by omega))
  have Ev : (ak_enE hm (ak_nJ fs) fs.length (g.φ f.r) (ak_fx g fs) (ak_nT fs)).1 199 (ak_nT fs) = 0 ∧ (ak_enE hm (ak_nJ fs) fs.length (g.φ f.r) (ak_fx g fs) (ak_nT fs)).2.1 200 (ak_nT fs) = 0 ∧ (ak_enE hm (ak_nJ fs) fs.length (g.φ f.r) (ak_fx g fs) (ak_nT fs)).1 110 127 = ((ak_nT fs + 1 : Nat) : Int) := by
    unfold ak_enE
    exact ak_psM_v
  generalize ak_enE hm (ak_nJ fs) fs.length (g.φ f.r) (ak_fx g fs) (ak_nT fs) = hmE at goM EO EJ E102 Eo Ev
  obtain ⟨G1, G2, G3, G4⟩ := ak_gvM_v (h := hm) (f' := (g.φ f.r : Int)) (s := 0) (x := 0)
  obtain ⟨hc', g1, g2, g3⟩ := ak_exit (e := e) (d := d) (ρ1 := ρ1) (ρ2 := ρ2) (ρ := ρ) (hmF := hmE) UI ⟨G1, G2⟩ (fun q k a b c' => (EO q k (by omega) b c').trans (ak_gvM_o (by omega)).symm) (fun q k a b => (EJ q k a).trans (ak_gvM_J b).symm) E102 ((Eo _ _ (by omega) (by omega)).trans D1.2.1) Ev.2.2 ((Eo _ _ (by omega) (by omega)).trans D1.1) ((Eo _ _ (by omega) (by omega)).trans D1.2.2.1) ((Eo _ _ (by omega) (by omega)).trans (D1.2.2.2.trans (ak_gvM_o (by omega)).symm)) ⟨Ev.1.trans G3.symm, Ev.2.1.trans G4.symm⟩
  refine ⟨_, hc', hmE, fun Q X q => am_s54 (d := d + 29) q, by rw [ak_goS_v.1]; decide, fun Q X q => ak_MV_of (Nat.le_of_ble_eq_true rfl) (am_k100_0 hs (g1 0 Q X ?_ q)), goM, g2, ?_⟩
  · rw [ak_goS_o (by omega), c4]; omega
  · rcases g3 with ⟨g', fs', h1, h2, h3, h4⟩ | h
    · exact Or.inl ⟨g', fs', h1, h2, h3, fun q hq => (h4 q hq).trans (ak_gvM_o (by omega))⟩
    · exact Or.inr h
end GIVE
