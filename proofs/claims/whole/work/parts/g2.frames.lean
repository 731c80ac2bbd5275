/-! the run: the frames of both -/
/-- what is fixed while a text is loaded; what grows -/
abbrev ak_Cx : Type := Nat × Nat × Nat × Nat × Nat × (Nat → Int) × (Nat → Nat) × ak_S × ak_S
abbrev ak_Cx.s (x : ak_Cx) : Nat := x.1
abbrev ak_Cx.us (x : ak_Cx) : Nat := x.2.1
abbrev ak_Cx.n (x : ak_Cx) : Nat := x.2.2.1
abbrev ak_Cx.m (x : ak_Cx) : Nat := x.2.2.2.1
abbrev ak_Cx.Mt (x : ak_Cx) : Nat := x.2.2.2.2.1
abbrev ak_Cx.b (x : ak_Cx) : Nat → Int := x.2.2.2.2.2.1
abbrev ak_Cx.z (x : ak_Cx) : Nat → Nat := x.2.2.2.2.2.2.1
abbrev ak_Cx.h0 (x : ak_Cx) : ak_S := x.2.2.2.2.2.2.2.1
abbrev ak_Cx.m0 (x : ak_Cx) : ak_S := x.2.2.2.2.2.2.2.2
abbrev ak_Gh : Type := Nat × Nat × Nat × (Nat → List (Int × Int)) × (Nat → Nat) × (Nat → List ak_E) × List ak_E × List (Int × Int × Int × Int) × (Nat → Nat) × (Nat → Nat) × (Nat → Nat) × (Nat → Nat) × List Nat × List Nat
abbrev ak_Gh.S (x : ak_Gh) : Nat := x.1
abbrev ak_Gh.O (x : ak_Gh) : Nat := x.2.1
abbrev ak_Gh.B (x : ak_Gh) : Nat := x.2.2.1
abbrev ak_Gh.T (x : ak_Gh) : Nat → List (Int × Int) := x.2.2.2.1
abbrev ak_Gh.sh (x : ak_Gh) : Nat → Nat := x.2.2.2.2.1
abbrev ak_Gh.E (x : ak_Gh) : Nat → List ak_E := x.2.2.2.2.2.1
abbrev ak_Gh.Et (x : ak_Gh) : List ak_E := x.2.2.2.2.2.2.1
abbrev ak_Gh.G (x : ak_Gh) : List (Int × Int × Int × Int) := x.2.2.2.2.2.2.2.1
abbrev ak_Gh.φ (x : ak_Gh) : Nat → Nat := x.2.2.2.2.2.2.2.2.1
abbrev ak_Gh.hr (x : ak_Gh) : Nat → Nat := x.2.2.2.2.2.2.2.2.2.1
abbrev ak_Gh.lv (x : ak_Gh) : Nat → Nat := x.2.2.2.2.2.2.2.2.2.2.1
abbrev ak_Gh.mt (x : ak_Gh) : Nat → Nat := x.2.2.2.2.2.2.2.2.2.2.2.1
abbrev ak_Gh.Us (x : ak_Gh) : List Nat := x.2.2.2.2.2.2.2.2.2.2.2.2.1
abbrev ak_Gh.FR (x : ak_Gh) : List Nat := x.2.2.2.2.2.2.2.2.2.2.2.2.2
/-- a way kept: nothing, a failure, an end -/
def ak_wyr (O B : Nat) (φ : Nat → Nat) (rs : List Nat) (g kd so wo nu wy wf ws ww wk wn : Int) : Prop := g = wy ∧ (g = 0 ∨ (g = 1 ∧ kd = wk ∧ so = ws ∧ wo = ww ∧ nu = wn ∧ ak_vok O B so wo) ∨
  (g = 2 ∧ so = ws ∧ wo = ww ∧ ak_vok O B so wo ∧ ∃ (up : List Nat) (r' : Nat) (lo : List Nat), rs = up ++ r' :: lo ∧ nu = (lo.length : Int) ∧ wf = (φ r' : Int)))
/-- the jobs of a frame: F its number, rs the rooms from it on down, J its first place, Gp, Kp guards and ensures below, Tp values below -/
def ak_JS (O B : Nat) (φ : Nat → Nat) (rs : List Nat) (F J Gp Kp Tp : Nat) (hc hm : ak_S) : List ak_Jb → Prop
  | [] => True
  | j :: r => (hm.1 201 (J + r.length) = (j.k : Int) ∧ hm.1 202 (J + r.length) = j.n ∧ hm.1 203 (J + r.length) = j.a ∧ hm.1 204 (J + r.length) = j.b) ∧
    (9 ≤ j.k → (hc.1 78 (Gp + ak_gc r) = (j.k : Int) - 9 ∧ hc.1 79 (Gp + ak_gc r) = (j.w : Int) ∧ hc.1 80 (Gp + ak_gc r) = (F : Int)) ∧ (j.k = 10 → hc.1 81 (Gp + ak_gc r) = j.a) ∧ j.b = (Tp : Int)) ∧
    (j.k = 11 → ak_wyr O B φ rs (hc.1 82 (Gp + ak_gc r)) (hc.1 83 (Gp + ak_gc r)) (hc.1 84 (Gp + ak_gc r)) (hc.2.1 85 (Gp + ak_gc r)) (hc.1 86 (Gp + ak_gc r)) (hm.1 205 (Kp + ak_kc r)) (hm.1 206 (Kp + ak_kc r)) (hm.1 207 (Kp + ak_kc r)) (hm.2.1 208 (Kp + ak_kc r)) (hm.1 209 (Kp + ak_kc r)) (hm.1 210 (Kp + ak_kc r))) ∧
    ak_JS O B φ rs F J Gp Kp Tp hc hm r
/-- the values of a frame -/
def ak_VS (O B : Nat) (ss sw : Int) (Vp Tp : Nat) (hc hm : ak_S) : List (Bool × Int × Int) → Prop
  | [] => True
  | v :: l => (hc.1 108 (Vp + l.length) = v.2.1 ∧ hc.2.1 109 (Vp + l.length) = v.2.2 ∧ ak_vok O B v.2.1 v.2.2) ∧ (v.1 = true → hm.1 199 (Tp + ak_tc l) = v.2.1 ∧ hm.2.1 200 (Tp + ak_tc l) = v.2.2) ∧ (v.1 = false → v.2.1 = ss ∧ v.2.2 = sw) ∧ ak_VS O B ss sw Vp Tp hc hm l
/-- the frame of the other that is on top -/
def ak_fx (g : ak_Gh) : List ak_Fr → Int
  | [] => -1
  | f :: _ => (g.φ f.r : Int)
def ak_rms (fs : List ak_Fr) : List Nat := fs.map (fun f => f.r)
def ak_F1 (c : ak_Cx) (g : ak_Gh) (hc hm : ak_S) (aw : List Bool) (fs : List ak_Fr) (f : ak_Fr) : Prop :=
  (f.r ∈ g.Us ∧ hc.1 70 fs.length = (f.r : Int) ∧ hc.1 71 fs.length = (g.mt f.r : Int) ∧ hc.1 72 fs.length = (f.pc : Int) ∧ hc.1 73 fs.length = hm.1 183 (g.φ f.r) ∧ hc.1 74 fs.length = (ak_nV fs : Int) ∧ hc.1 75 fs.length = (ak_nG fs : Int) ∧ hc.1 76 fs.length = hm.1 176 (g.φ f.r) ∧ (hc.1 76 fs.length = 0 ∨ hc.1 76 fs.length = 1) ∧ hc.1 54 f.r = (fs.length : Int)) ∧
  (hm.1 201 (ak_nJ fs) = 8 ∧ hm.1 202 (ak_nJ fs) = (g.φ f.r : Int) ∧ hm.1 203 (ak_nJ fs) = ak_fx g fs ∧ hm.1 204 (ak_nJ fs) = (ak_nT fs : Int)) ∧
  ak_JS g.O g.B g.φ (f.r :: ak_rms fs) fs.length (ak_nJ fs + 1) (ak_nG fs) (ak_nK fs) (ak_nT fs) hc hm f.js ∧
  ak_VS g.O g.B (hc.1 56 (g.hr f.r)) (hc.2.1 57 (g.hr f.r)) (ak_nV fs) (ak_nT fs) hc hm f.vs ∧
  ak_K (ak_mC c.s c.h0) (ak_mM c.us c.m0) (ak_T c.s) c.us (g.mt f.r + 40 * g.lv f.r) f.js f.pc (aw ++ f.vs.map (fun v => v.1)) ∧
  (f.js.length ≤ 6165 ∧ aw.length + f.vs.length ≤ 151 ∧ ak_gc f.js ≤ 21)
def ak_LO (c : ak_Cx) (g : ak_Gh) (hc hm : ak_S) : List Bool → List ak_Fr → Prop
  | _, [] => True
  | aw, f :: fs => ak_F1 c g hc hm aw fs f ∧ ak_LO c g hc hm [true] fs
/-- how many frames take what is not found -/
def ak_nH (h : ak_S) : List ak_Fr → Int
  | [] => 0
  | _ :: fs => ak_nH h fs + h.1 76 fs.length
/-- the text, the world, the sites, the rooms, what is told -/
def ak_SPP (c : ak_Cx) (g : ak_Gh) (V : List Nat) (hc hm : ak_S) : Prop := ((c.s = 0 ∨ c.s = 1) ∧ ak_tx c.s c.us c.n c.m c.Mt c.b c.z c.h0 c.m0) ∧ ak_agT c.s c.us c.h0 c.m0 hc hm ∧ (4 ≤ g.O ∧ ak_WD g.S g.O g.B c.Mt g.T g.sh hc hm) ∧ ak_ST g.S g.O (c.z 7) c.us g.T g.sh g.E g.Et g.G hc hm ∧
  ak_RM c.s c.us g.O g.B c.Mt g.φ g.hr g.lv g.mt g.Us g.FR V c.h0 c.m0 hc hm ∧ ak_jn hc hm ∧ ak_all c.us hc hm ∧ hc.1 1 8 = 1 ∧ hm.1 110 4 = 1 ∧ hm.1 110 0 = 0
/-- frames, jobs, values -/
def ak_DY (c : ak_Cx) (g : ak_Gh) (fs : List ak_Fr) (hc hm : ak_S) : Prop := (fs.length ≤ 60 ∧ hc.1 69 7 = (fs.length : Int) ∧ hc.1 69 8 = ak_nH hc fs ∧ hc.1 77 4 = (ak_nG fs : Int) ∧ hc.1 32 10 = (ak_nV fs : Int)) ∧
  (hm.1 110 102 = ak_fx g fs ∧ hm.1 110 103 = (fs.length : Int) ∧ hm.1 110 127 = (ak_nT fs : Int) ∧ hm.1 110 132 = (ak_nJ fs : Int) ∧ hm.1 110 139 = (ak_nK fs : Int)) ∧ ak_LO c g hc hm [] fs
/-- between two orders -/
def ak_RN (c : ak_Cx) (g : ak_Gh) (fs : List ak_Fr) (hc hm : ak_S) : Prop := ak_SPP c g (ak_rms fs) hc hm ∧ ak_DY c g fs hc hm ∧ hc.1 32 11 = -1 ∧ hc.1 77 10 = 0 ∧ hm.1 110 105 = -1
/-- how many orders there may be yet -/
def ak_pcs : List ak_Fr → Nat
  | [] => 0
  | f :: fs => ak_pcs fs + (9100 - f.pc) + 9101 * ak_gw f.js
def ak_Phi (hm : ak_S) (fs : List ak_Fr) : Nat := 18300 * (4000 - (hm.1 110 104).toNat) + ak_pcs fs
section FRL
variable {c : ak_Cx} {g g' : ak_Gh} {fs : List ak_Fr} {f : ak_Fr} {hc hm hc' hm' : ak_S} {aw aw' : List Bool}
theorem ak_vok_mono2 {O B O' B' : Nat} {a b : Int} (hO : O ≤ O') (hB : B ≤ B') (w : ak_vok O B a b) : ak_vok O' B' a b := ak_vok_mono w hO hB
theorem ak_wyr_mono {O B O' B' : Nat} {φ φ' : Nat → Nat} {rs : List Nat} {a1 a2 a3 a4 a5 b1 b2 b3 b4 b5 b6 : Int} (w : ak_wyr O B φ rs a1 a2 a3 a4 a5 b1 b2 b3 b4 b5 b6) (hO : O ≤ O') (hB : B ≤ B') (hφ : ∀ y, y ∈ rs → φ' y = φ y) : ak_wyr O' B' φ' rs a1 a2 a3 a4 a5 b1 b2 b3 b4 b5 b6 := by
  obtain ⟨w1, w2⟩ := w
  refine ⟨w1, ?_⟩
  rcases w2 with w2 | ⟨w2, w3, w4, w5, w6, w7⟩ | ⟨w2, w3, w4, w5, up, r', lo, w6, w7, w8⟩
  · exact Or.inl w2
  · exact Or.inr (Or.inl ⟨w2, w3, w4, w5, w6, ak_vok_mono w7 hO hB⟩)
  · refine Or.inr (Or.inr ⟨w2, w3, w4, ak_vok_mono w5 hO hB, up, r', lo, w6, w7, ?_⟩)
    rw [hφ r' (by rw [w6]; simp)]
    exact w8
theorem ak_JS_fr {O B O' B' : Nat} {φ φ' : Nat → Nat} {rs : List Nat} {F J Gp Kp Tp : Nat} (hO : O ≤ O') (hB : B ≤ B') (hφ : ∀ y, y ∈ rs → φ' y = φ y) : ∀ {l : List ak_Jb}, ak_JS O B φ rs F J Gp Kp Tp hc hm l →
    (∀ q k, 78 ≤ q → q ≤ 86 → k < Gp + ak_gc l → hc'.1 q k = hc.1 q k ∧ hc'.2.1 q k = hc.2.1 q k) → (∀ q k, 201 ≤ q → q ≤ 204 → k < J + l.length → hm'.1 q k = hm.1 q k) → (∀ q k, 205 ≤ q → q ≤ 210 → k < Kp + ak_kc l → hm'.1 q k = hm.1 q k ∧ hm'.2.1 q k = hm.2.1 q k) → ak_JS O' B' φ' rs F J Gp Kp Tp hc' hm' l := by
  intro l
  induction l with
  | nil => intro _ _ _ _; trivial
  | cons j r ih =>
    intro w hG hJ hK
    obtain ⟨w1, w2, w3, w4⟩ := w
    have eJ : ∀ q, 201 ≤ q → q ≤ 204 → hm'.1 q (J + r.length) = hm.1 q (J + r.length) := fun q a b => hJ q _ a b (by rw [List.length_cons]; omega)
    have gl : ak_gc r ≤ ak_gc (j :: r) := Nat.le_add_right _ _
    have kl : ak_kc r ≤ ak_kc (j :: r) := Nat.le_add_right _ _
    have eG : 9 ≤ j.k → ∀ q, 78 ≤ q → q ≤ 86 → hc'.1 q (Gp + ak_gc r) = hc.1 q (Gp + ak_gc r) ∧ hc'.2.1 q (Gp + ak_gc r) = hc.2.1 q (Gp + ak_gc r) := fun h q a b => hG q _ a b (by
      show _ < Gp + (ak_gc r + (if 9 ≤ j.k then 1 else 0))
      rw [if_pos h]; omega)
    have eK : j.k = 11 → ∀ q, 205 ≤ q → q ≤ 210 → hm'.1 q (Kp + ak_kc r) = hm.1 q (Kp + ak_kc r) ∧ hm'.2.1 q (Kp + ak_kc r) = hm.2.1 q (Kp + ak_kc r) := fun h q a b => hK q _ a b (by
      show _ < Kp + (ak_kc r + (if j.k = 11 then 1 else 0))
      rw [if_pos h]; omega)
    refine ⟨?_, fun h => ?_, fun h => ?_, ih w4 (fun q k a b d => hG q k a b (by omega)) (fun q k a b d => hJ q k a b (by rw [List.length_cons]; omega)) (fun q k a b d => hK q k a b (by omega))⟩
    · rw [eJ 201 (by omega) (by omega), eJ 202 (by omega) (by omega), eJ 203 (by omega) (by omega), eJ 204 (by omega) (by omega)]
      exact w1
    · rw [(eG h 78 (by omega) (by omega)).1, (eG h 79 (by omega) (by omega)).1, (eG h 80 (by omega) (by omega)).1, (eG h 81 (by omega) (by omega)).1]
      exact w2 h
    · have h9 : 9 ≤ j.k := by omega
      rw [(eG h9 82 (by omega) (by omega)).1, (eG h9 83 (by omega) (by omega)).1, (eG h9 84 (by omega) (by omega)).1, (eG h9 85 (by omega) (by omega)).2, (eG h9 86 (by omega) (by omega)).1, (eK h 205 (by omega) (by omega)).1, (eK h 206 (by omega) (by omega)).1, (eK h 207 (by omega) (by omega)).1, (eK h 208 (by omega) (by omega)).2, (eK h 209 (by omega) (by omega)).1, (eK h 210 (by omega) (by omega)).1]
      exact ak_wyr_mono (w3 h) hO hB hφ
theorem ak_VS_fr {O B O' B' : Nat} {ss sw ss' sw' : Int} {Vp Tp : Nat} (hO : O ≤ O') (hB : B ≤ B') (es : ss' = ss ∧ sw' = sw) : ∀ {l : List (Bool × Int × Int)}, ak_VS O B ss sw Vp Tp hc hm l →
    (∀ k, k < Vp + l.length → hc'.1 108 k = hc.1 108 k ∧ hc'.2.1 109 k = hc.2.1 109 k) → (∀ k, k < Tp + ak_tc l → hm'.1 199 k = hm.1 199 k ∧ hm'.2.1 200 k = hm.2.1 200 k) → ak_VS O' B' ss' sw' Vp Tp hc' hm' l := by
  intro l
  induction l with
  | nil => intro _ _ _; trivial
  | cons v r ih =>
    intro w hV hT
    obtain ⟨⟨w1, w2, w3⟩, w4, w5, w6⟩ := w
    have tl : ak_tc r ≤ ak_tc (v :: r) := Nat.le_add_right _ _
    have eV := hV (Vp + r.length) (by rw [List.length_cons]; omega)
    refine ⟨⟨eV.1.trans w1, eV.2.trans w2, ak_vok_mono w3 hO hB⟩, fun h => ?_, fun h => ?_, ih w6 (fun k d => hV k (by rw [List.length_cons]; omega)) (fun k d => hT k (by omega))⟩
    · have eT := hT (Tp + ak_tc r) (by
        show _ < Tp + (ak_tc r + (if v.1 = true then 1 else 0))
        rw [if_pos h]; omega)
      rw [eT.1, eT.2]
      exact w4 h
    · rw [es.1, es.2]
      exact w5 h
theorem ak_fx_eq (h : ∀ y, y ∈ ak_rms fs → g'.φ y = g.φ y) : ak_fx g' fs = ak_fx g fs := by
  cases fs with
  | nil => rfl
  | cons f fs => exact congrArg Int.ofNat (h f.r (by simp [ak_rms]))
/-- the topmost frame anew; what is below it is as it was -/
theorem ak_F1_up {pc' : Nat} {js' : List ak_Jb} {vs' : List (Bool × Int × Int)} (w : ak_F1 c g hc hm aw fs f) (hφ : ∀ y, y ∈ f.r :: ak_rms fs → g'.φ y = g.φ y) (hU : f.r ∈ g'.Us) (hl : g'.mt f.r = g.mt f.r ∧ g'.lv f.r = g.lv f.r)
    (cA : ∀ q, 70 ≤ q → q ≤ 76 → q ≠ 72 → q ≠ 73 → hc'.1 q fs.length = hc.1 q fs.length) (c72 : hc'.1 72 fs.length = (pc' : Int)) (c73 : hc'.1 73 fs.length = hm'.1 183 (g.φ f.r)) (c54 : hc'.1 54 f.r = hc.1 54 f.r) (m176 : hm'.1 176 (g.φ f.r) = hm.1 176 (g.φ f.r))
    (mJ : ∀ q, 201 ≤ q → q ≤ 204 → hm'.1 q (ak_nJ fs) = hm.1 q (ak_nJ fs)) (J : ak_JS g'.O g'.B g'.φ (f.r :: ak_rms fs) fs.length (ak_nJ fs + 1) (ak_nG fs) (ak_nK fs) (ak_nT fs) hc' hm' js')
    (V : ak_VS g'.O g'.B (hc'.1 56 (g'.hr f.r)) (hc'.2.1 57 (g'.hr f.r)) (ak_nV fs) (ak_nT fs) hc' hm' vs') (K : ak_K (ak_mC c.s c.h0) (ak_mM c.us c.m0) (ak_T c.s) c.us (g.mt f.r + 40 * g.lv f.r) js' pc' (aw' ++ vs'.map (fun v => v.1)))
    (L : js'.length ≤ 6165 ∧ aw'.length + vs'.length ≤ 151 ∧ ak_gc js' ≤ 21) : ak_F1 c g' hc' hm' aw' fs ⟨f.r, pc', js', vs'⟩ := by
  obtain ⟨⟨a1, a2, a3, a4, a5, a6, a7, a8, a9, a10⟩, ⟨b1, b2, b3, b4⟩, _⟩ := w
  have e1 : g'.φ f.r = g.φ f.r := hφ f.r (by simp)
  have e2 : ak_fx g' fs = ak_fx g fs := ak_fx_eq (fun y hy => hφ y (by simp [hy]))
  unfold ak_F1
  dsimp only [ak_Fr.r, ak_Fr.pc, ak_Fr.js, ak_Fr.vs]
  rw [hl.1, hl.2, e1, e2, c72, c54, m176, cA 70 (by omega) (by omega) (by omega) (by omega), cA 71 (by omega) (by omega) (by omega) (by omega), cA 74 (by omega) (by omega) (by omega) (by omega), cA 75 (by omega) (by omega) (by omega) (by omega), cA 76 (by omega) (by omega) (by omega) (by omega), mJ 201 (by omega) (by omega), mJ 202 (by omega) (by omega), mJ 203 (by omega) (by omega), mJ 204 (by omega) (by omega)]
  exact ⟨⟨hU, a2, a3, rfl, c73, a6, a7, a8, a9, a10⟩, ⟨b1, b2, b3, b4⟩, J, V, K, L⟩
/-- what is below stays -/
theorem ak_LO_fr (hO : g.O ≤ g'.O) (hB : g.B ≤ g'.B) : ∀ {fs aw}, ak_LO c g hc hm aw fs → (∀ y, y ∈ ak_rms fs → y ∈ g'.Us ∧ g'.φ y = g.φ y ∧ g'.hr y = g.hr y ∧ g'.mt y = g.mt y ∧ g'.lv y = g.lv y ∧ hc'.1 54 y = hc.1 54 y ∧ hc'.1 56 (g.hr y) = hc.1 56 (g.hr y) ∧ hc'.2.1 57 (g.hr y) = hc.2.1 57 (g.hr y) ∧ hm'.1 183 (g.φ y) = hm.1 183 (g.φ y) ∧ hm'.1 176 (g.φ y) = hm.1 176 (g.φ y)) →
    (∀ q k, 70 ≤ q → q ≤ 76 → k < fs.length → hc'.1 q k = hc.1 q k) → (∀ q k, 78 ≤ q → q ≤ 86 → k < ak_nG fs → hc'.1 q k = hc.1 q k ∧ hc'.2.1 q k = hc.2.1 q k) → (∀ k, k < ak_nV fs → hc'.1 108 k = hc.1 108 k ∧ hc'.2.1 109 k = hc.2.1 109 k) →
    (∀ q k, 201 ≤ q → q ≤ 204 → k < ak_nJ fs → hm'.1 q k = hm.1 q k) → (∀ q k, 205 ≤ q → q ≤ 210 → k < ak_nK fs → hm'.1 q k = hm.1 q k ∧ hm'.2.1 q k = hm.2.1 q k) → (∀ k, k < ak_nT fs → hm'.1 199 k = hm.1 199 k ∧ hm'.2.1 200 k = hm.2.1 200 k) → ak_LO c g' hc' hm' aw fs := by
  intro fs
  induction fs with
  | nil => intro aw _ _ _ _ _ _ _ _; trivial
  | cons f fs ih =>
    intro aw w hy cA cG cV mJ mK mT
    obtain ⟨w, wl⟩ := w
    have hf := hy f.r (by simp [ak_rms])
    have hφ : ∀ y, y ∈ f.r :: ak_rms fs → g'.φ y = g.φ y := fun y h => (hy y h).2.1
    have nG : ak_nG (f :: fs) = ak_nG fs + ak_gc f.js := rfl
    have nK : ak_nK (f :: fs) = ak_nK fs + ak_kc f.js := rfl
    have nV : ak_nV (f :: fs) = ak_nV fs + f.vs.length := rfl
    have nT : ak_nT (f :: fs) = ak_nT fs + ak_tc f.vs := rfl
    have nJ : ak_nJ (f :: fs) = ak_nJ fs + 1 + f.js.length := rfl
    have nL : (f :: fs).length = fs.length + 1 := rfl
    rw [nG] at cG
    rw [nK] at mK
    rw [nV] at cV
    rw [nT] at mT
    rw [nJ] at mJ
    rw [nL] at cA
    have w' := w
    obtain ⟨⟨a1, a2, a3, a4, a5, a6, a7, a8, a9, a10⟩, ⟨b1, b2, b3, b4⟩, wJ, wV, wK, wL⟩ := w'
    refine ⟨?_, ih wl (fun y h => hy y (by simp [ak_rms] at h ⊢; exact Or.inr h)) (fun q k a b d => cA q k a b (by omega)) (fun q k a b d => cG q k a b (by omega)) (fun k d => cV k (by omega)) (fun q k a b d => mJ q k a b (by omega)) (fun q k a b d => mK q k a b (by omega)) (fun k d => mT k (by omega))⟩
    refine ak_F1_up (g' := g') w hφ hf.1 ⟨hf.2.2.2.1, hf.2.2.2.2.1⟩ (fun q a b _ _ => cA q _ a b (by omega)) ((cA 72 _ (by omega) (by omega) (by omega)).trans a4) ?_ hf.2.2.2.2.2.1 hf.2.2.2.2.2.2.2.2.2 (fun q a b => mJ q _ a b (by omega)) ?_ ?_ wK wL
    · rw [cA 73 _ (by omega) (by omega) (by omega), a5]; exact hf.2.2.2.2.2.2.2.2.1.symm
    · exact ak_JS_fr hO hB hφ wJ cG mJ mK
    · rw [hf.2.2.1]
      exact ak_VS_fr hO hB ⟨hf.2.2.2.2.2.2.1, hf.2.2.2.2.2.2.2.1⟩ wV cV mT
end FRL
