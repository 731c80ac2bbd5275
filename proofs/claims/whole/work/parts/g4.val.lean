/-! the run: a value more, a job more -/
section VAL
variable {e : ak_X3} {d ρ1 ρ2 o y a n m : Nat} {c : ak_Cx} {g g' : ak_Gh} {fs : List ak_Fr} {f : ak_Fr} {V : List Nat} {hc hm hc' hm' hc2 hm2 hcS : ak_S} {s x ss sw : Int}
theorem ak_JS_dn {O B : Nat} {φ : Nat → Nat} {rs : List Nat} {F J Gp Kp Tp : Nat} {r : List ak_Jb} : ∀ {l : List ak_Jb}, ak_JS O B φ rs F J Gp Kp Tp hc hm (l ++ r) → ak_JS O B φ rs F J Gp Kp Tp hc hm r := by
  intro l
  induction l with
  | nil => intro w; exact w
  | cons j l ih => intro w; exact ih w.2.2.2
theorem ak_VS_dn {O B : Nat} {Vp Tp : Nat} {r : List (Bool × Int × Int)} : ∀ {l : List (Bool × Int × Int)}, ak_VS O B ss sw Vp Tp hc hm (l ++ r) → ak_VS O B ss sw Vp Tp hc hm r := by
  intro l
  induction l with
  | nil => intro w; exact w
  | cons j l ih => intro w; exact ih w.2.2.2
theorem ak_kpM_trans {j v j2 v2 : Nat} (w : ak_kpM j v hm hm') (w2 : ak_kpM j2 v2 hm' hm2) (hj : j ≤ j2) (hv : v ≤ v2) : ak_kpM j v hm hm2 :=
  ⟨fun q k h => (w2.1 q k (by omega)).trans (w.1 q k h), fun q k h => (w2.2 q k (by omega)).trans (w.2 q k h)⟩
theorem ak_kpC_trans {t : Nat} (w : ak_kpC g V t a hc hc') (w2 : ak_kpC g V t a hc' hc2) : ak_kpC g V t a hc hc2 :=
  ⟨fun q k h => (w2.1 q k h).trans (w.1 q k h), fun q k h => (w2.2.1 q k h).trans (w.2.1 q k h), fun y h => ⟨(w2.2.2 y h).1.trans (w.2.2 y h).1, (w2.2.2 y h).2.1.trans (w.2.2 y h).2.1, (w2.2.2 y h).2.2.trans (w.2.2 y h).2.2⟩⟩
theorem ak_kpC_refl {t : Nat} : ak_kpC g V t a hc hc := ⟨fun _ _ _ => rfl, fun _ _ _ => rfl, fun _ _ => ⟨rfl, rfl, rfl⟩⟩
theorem ak_kpM_refl {j v : Nat} : ak_kpM j v hm hm := ⟨fun _ _ _ => rfl, fun _ _ _ => rfl⟩
theorem ak_kpM_po {j v : Nat} : ak_kpM j v hm (ak_poM hm n) := ⟨fun q k h => ak_up_out (by omega), fun _ _ _ => rfl⟩
theorem ak_atC_o {t pc q k : Nat} (h1 : ¬ (q = 32 ∧ k = 12)) (h2 : ¬ (q = 72 ∧ k = t)) : (ak_atC hc t pc).1 q k = hc.1 q k := (ak_up_out h2).trans (ak_up_out h1)
theorem ak_atC_72 {t pc : Nat} : (ak_atC hc t pc).1 72 t = ((pc + 1 : Nat) : Int) := by unfold ak_atC; simp [am_up]
theorem ak_atC_12 {t pc : Nat} : (ak_atC hc t pc).1 32 12 = (t : Int) := by unfold ak_atC; simp [am_up]
theorem ak_kpC_at {t pc : Nat} : ak_kpC g V t a hc (ak_atC hc t pc) := ⟨fun q k h => ak_atC_o (by omega) (by omega), fun _ _ _ => rfl, fun y h => ⟨ak_atC_o (by omega) (by omega), ak_atC_o (by omega) (by omega), rfl⟩⟩
theorem ak_psC_o {n q k : Nat} (h1 : ¬ (q = 108 ∧ k = n)) (h2 : ¬ (q = 32 ∧ k = 10)) : (ak_psC hc n s x).1 q k = hc.1 q k := (ak_up_out h2).trans (ak_up_out h1)
theorem ak_psC_J {n q k : Nat} (h1 : ¬ (q = 109 ∧ k = n)) : (ak_psC hc n s x).2.1 q k = hc.2.1 q k := ak_up_out h1
theorem ak_psC_v {n : Nat} : (ak_psC hc n s x).1 108 n = s ∧ (ak_psC hc n s x).2.1 109 n = x ∧ (ak_psC hc n s x).1 32 10 = ((n + 1 : Nat) : Int) := by
  unfold ak_psC
  simp [am_up]
theorem ak_psM_o {n q k : Nat} (h1 : ¬ (q = 199 ∧ k = n)) (h2 : ¬ (q = 110 ∧ k = 127)) : (ak_psM hm n s x).1 q k = hm.1 q k := (ak_up_out h2).trans (ak_up_out h1)
theorem ak_psM_J {n q k : Nat} (h1 : ¬ (q = 200 ∧ k = n)) : (ak_psM hm n s x).2.1 q k = hm.2.1 q k := ak_up_out h1
theorem ak_psM_v {n : Nat} : (ak_psM hm n s x).1 199 n = s ∧ (ak_psM hm n s x).2.1 200 n = x ∧ (ak_psM hm n s x).1 110 127 = ((n + 1 : Nat) : Int) := by
  unfold ak_psM
  simp [am_up]
theorem ak_poM_o {q k : Nat} (h1 : ¬ (q = 110 ∧ k = 132)) : (ak_poM hm n).1 q k = hm.1 q k := ak_up_out h1
theorem ak_poM_v : (ak_poM hm n).1 110 132 = (n : Int) := by unfold ak_poM; simp [am_up]
theorem ak_kpM_jb {j v k : Nat} {jk jn ja jb : Int} (h : j ≤ k) : ak_kpM j v hm (ak_jbM hm k jk jn ja jb) := by
  unfold ak_jbM
  exact ⟨fun q i h => (ak_up_out (by omega)).trans ((ak_up_out (by omega)).trans ((ak_up_out (by omega)).trans ((ak_up_out (by omega)).trans (ak_up_out (by omega))))), fun _ _ _ => rfl⟩
theorem ak_stM_jb {k : Nat} {jk jn ja jb : Int} {q i : Nat} (h : ak_stM q i) : (ak_jbM hm k jk jn ja jb).1 q i = hm.1 q i ∧ (ak_jbM hm k jk jn ja jb).2.1 q i = hm.2.1 q i := by
  unfold ak_stM at h
  exact ⟨(ak_up_out (by omega)).trans ((ak_up_out (by omega)).trans ((ak_up_out (by omega)).trans ((ak_up_out (by omega)).trans (ak_up_out (by omega))))), rfl⟩
theorem ak_jb_132 {k : Nat} {jk jn ja jb : Int} : (ak_jbM hm k jk jn ja jb).1 110 132 = ((k + 1 : Nat) : Int) := by unfold ak_jbM; simp [am_up]
theorem ak_jb_out {k : Nat} {jk jn ja jb : Int} {q i : Nat} (h : ¬ (q = 110 ∧ i = 132)) (h2 : ¬ (201 ≤ q ∧ q ≤ 204 ∧ i = k)) : (ak_jbM hm k jk jn ja jb).1 q i = hm.1 q i :=
  (ak_up_out (by omega)).trans ((ak_up_out (by omega)).trans ((ak_up_out (by omega)).trans ((ak_up_out (by omega)).trans (ak_up_out (by omega)))))
/-- a job put on those that are there -/
theorem ak_JS_jb {O B : Nat} {φ : Nat → Nat} {rs : List Nat} {F J Gp Kp Tp k w : Nat} {jn ja jb : Int} {l : List ak_Jb} (W : ak_JS O B φ rs F J Gp Kp Tp hc hm l) (hk : k < 9) : ak_JS O B φ rs F J Gp Kp Tp hc (ak_jbM hm (J + l.length) (k : Int) jn ja jb) (⟨k, jn, ja, jb, w⟩ :: l) := by
  refine ⟨?_, fun h => absurd h (by show ¬ (9 ≤ k); omega), fun h => absurd h (by show ¬ (k = 11); omega), ak_JS_fr (Nat.le_refl _) (Nat.le_refl _) (fun _ _ => rfl) W (fun _ _ _ _ _ => ⟨rfl, rfl⟩) (fun q i h1 h2 h3 => ak_jb_out (by omega) (by omega)) (fun q i h1 h2 h3 => ⟨ak_jb_out (by omega) (by omega), rfl⟩)⟩
  unfold ak_jbM
  simp [am_up]
/-- the topmost frame has got a value -/
theorem ak_RN_val {pc' : Nat} {r : List ak_Jb} {l : List (Bool × Int × Int)} (w : ak_RN c g (f :: fs) hc hm) (hl : ak_VS g.O g.B (hc.1 56 (g.hr f.r)) (hc.2.1 57 (g.hr f.r)) (ak_nV fs) (ak_nT fs) hc hm l) (hr : ak_JS g.O g.B g.φ (f.r :: ak_rms fs) fs.length (ak_nJ fs + 1) (ak_nG fs) (ak_nK fs) (ak_nT fs) hc hm r)
    (eg : ak_gc r = ak_gc f.js) (ek : ak_kc r = ak_kc f.js) (sp : ak_SPP c g' (ak_rms (f :: fs)) hcS hm') (gl : ak_gle g g' (ak_rms (f :: fs))) (kc : ak_kpC g (ak_rms (f :: fs)) fs.length (ak_nV fs + l.length) hc hcS) (km : ak_kpM (ak_nJ fs + 1 + r.length) (ak_nT fs + ak_tc l) hm hm')
    (c72 : hcS.1 72 fs.length = (pc' : Int)) (c11 : hcS.1 32 11 = -1) (c77 : hcS.1 77 10 = 0) (m105 : hm'.1 110 105 = -1) (m127 : hm'.1 110 127 = ((ak_nT fs + ak_tc l + 1 : Nat) : Int)) (m132 : hm'.1 110 132 = ((ak_nJ fs + 1 + r.length : Nat) : Int))
    (m199 : hm'.1 199 (ak_nT fs + ak_tc l) = s ∧ hm'.2.1 200 (ak_nT fs + ak_tc l) = x) (vk : ak_vok g'.O g'.B s x) (K : ak_K (ak_mC c.s c.h0) (ak_mM c.us c.m0) (ak_T c.s) c.us (g.mt f.r + 40 * g.lv f.r) r pc' (true :: l.map (fun v => v.1)))
    (L : r.length ≤ 6165 ∧ l.length + 1 ≤ 151) : ak_RN c g' (⟨f.r, pc', r, (true, s, x) :: l⟩ :: fs) (ak_psC hcS (ak_nV fs + l.length) s x) hm' := by
  have P : ∀ q k, ¬ (q = 108 ∧ k = ak_nV fs + l.length) → ¬ (q = 32 ∧ k = 10) → (ak_psC hcS (ak_nV fs + l.length) s x).1 q k = hcS.1 q k := fun q k h1 h2 => ak_psC_o h1 h2
  have PJ : ∀ q k, ¬ (q = 109 ∧ k = ak_nV fs + l.length) → (ak_psC hcS (ak_nV fs + l.length) s x).2.1 q k = hcS.2.1 q k := fun q k h1 => ak_psC_J h1
  obtain ⟨P1, P2, P3⟩ := ak_psC_v (hc := hcS) (n := ak_nV fs + l.length) (s := s) (x := x)
  generalize ak_psC hcS (ak_nV fs + l.length) s x = hc' at P PJ P1 P2 P3
  obtain ⟨k1, k2, k3⟩ := kc
  have gf := gl.2.2 f.r (by simp [ak_rms])
  have kf := k3 f.r (by simp [ak_rms])
  refine ak_RN_top (a := ak_nV fs + l.length) (j := ak_nJ fs + 1 + r.length) (v := ak_nT fs + ak_tc l) w (ak_SP_fr sp (fun q k h => ⟨P q k (by unfold ak_stC at h; omega) (by unfold ak_stC at h; omega), PJ q k (by unfold ak_stC at h; omega)⟩) (fun _ _ _ => ⟨rfl, rfl⟩)) gl
    ⟨fun q k h => (P q k (by omega) (by omega)).trans (k1 q k h), fun q k h => (PJ q k (by omega)).trans (k2 q k h), fun y h => ⟨(P 54 y (by omega) (by omega)).trans (k3 y h).1, (P 56 _ (by omega) (by omega)).trans (k3 y h).2.1, (PJ 57 _ (by omega)).trans (k3 y h).2.2⟩⟩ km (Nat.le_add_right _ _) (Nat.le_add_right _ _) (Nat.le_add_right _ _) ((P 72 _ (by omega) (by omega)).trans c72) ?_ ((P 32 11 (by omega) (by omega)).trans c11) ((P 77 10 (by omega) (by omega)).trans c77) m105 ?_ m132 eg ek ?_ ?_ ?_ ⟨L.1, ?_⟩
  · rw [P3, List.length_cons]; congr 1
  · rw [m127]
    show ((ak_nT fs + ak_tc l + 1 : Nat) : Int) = ((ak_nT fs + (ak_tc l + 1) : Nat) : Int)
    rfl
  · exact ak_JS_fr gl.1 gl.2.1 (fun y hy => (gl.2.2 y hy).2.1) hr (fun q k h1 h2 h3 => ⟨(P q k (by omega) (by omega)).trans (k1 q k (by omega)), (PJ q k (by omega)).trans (k2 q k (by omega))⟩) (fun q k h1 h2 h3 => km.1 q k (by omega)) (fun q k h1 h2 h3 => ⟨km.1 q k (by omega), km.2 q k (by omega)⟩)
  · refine ⟨⟨P1, P2, vk⟩, fun _ => m199, fun h => absurd h (by simp), ak_VS_fr gl.1 gl.2.1 ⟨?_, ?_⟩ hl (fun k h => ⟨(P 108 k (by omega) (by omega)).trans (k1 108 k (by omega)), (PJ 109 k (by omega)).trans (k2 109 k (by omega))⟩) (fun k h => ⟨km.1 199 k (by omega), km.2 200 k (by omega)⟩)⟩
    · rw [gf.2.2.1, P 56 _ (by omega) (by omega)]; exact kf.2.1
    · rw [gf.2.2.1, PJ 57 _ (by omega)]; exact kf.2.2
  · exact K
  · rw [List.length_cons]; exact L.2
/-- the topmost frame has jobs and values other than before; values only fewer -/
theorem ak_RN_red {pc' : Nat} {js' : List ak_Jb} {l : List (Bool × Int × Int)} {j : Nat} (w : ak_RN c g (f :: fs) hc hm) (hl : ak_VS g.O g.B (hc.1 56 (g.hr f.r)) (hc.2.1 57 (g.hr f.r)) (ak_nV fs) (ak_nT fs) hc hm l)
    (J : ak_JS g'.O g'.B g'.φ (f.r :: ak_rms fs) fs.length (ak_nJ fs + 1) (ak_nG fs) (ak_nK fs) (ak_nT fs) hc' hm' js')
    (eg : ak_gc js' = ak_gc f.js) (ek : ak_kc js' = ak_kc f.js) (sp : ak_SPP c g' (ak_rms (f :: fs)) hc' hm') (gl : ak_gle g g' (ak_rms (f :: fs))) (kc : ak_kpC g (ak_rms (f :: fs)) fs.length (ak_nV fs + l.length) hc hc') (km : ak_kpM j (ak_nT fs + ak_tc l) hm hm') (hj : ak_nJ fs + 1 ≤ j)
    (c72 : hc'.1 72 fs.length = (pc' : Int)) (c10 : hc'.1 32 10 = ((ak_nV fs + l.length : Nat) : Int)) (c11 : hc'.1 32 11 = -1) (c77 : hc'.1 77 10 = 0) (m105 : hm'.1 110 105 = -1) (m127 : hm'.1 110 127 = ((ak_nT fs + ak_tc l : Nat) : Int)) (m132 : hm'.1 110 132 = ((ak_nJ fs + 1 + js'.length : Nat) : Int))
    (K : ak_K (ak_mC c.s c.h0) (ak_mM c.us c.m0) (ak_T c.s) c.us (g.mt f.r + 40 * g.lv f.r) js' pc' (l.map (fun v => v.1)))
    (L : js'.length ≤ 6165 ∧ l.length ≤ 151) : ak_RN c g' (⟨f.r, pc', js', l⟩ :: fs) hc' hm' := by
  obtain ⟨k1, k2, k3⟩ := kc
  have gf := gl.2.2 f.r (by simp [ak_rms])
  have kf := k3 f.r (by simp [ak_rms])
  refine ak_RN_top (a := ak_nV fs + l.length) (j := j) (v := ak_nT fs + ak_tc l) w sp gl ⟨k1, k2, k3⟩ km (Nat.le_add_right _ _) hj (Nat.le_add_right _ _) c72 c10 c11 c77 m105 m127 m132 eg ek J ?_ K L
  refine ak_VS_fr gl.1 gl.2.1 ⟨?_, ?_⟩ hl (fun k h => ⟨k1 108 k (by omega), k2 109 k (by omega)⟩) (fun k h => ⟨km.1 199 k (by omega), km.2 200 k (by omega)⟩)
  · rw [gf.2.2.1]; exact kf.2.1
  · rw [gf.2.2.1]; exact kf.2.2
theorem ak_gle_refl (w : ak_RN c g (f :: fs) hc hm) : ak_gle g g (ak_rms (f :: fs)) := by
  refine ⟨Nat.le_refl _, Nat.le_refl _, fun y hy => ⟨?_, rfl, rfl, rfl, rfl⟩⟩
  obtain ⟨_, ⟨_, _, lo⟩, _⟩ := w
  have : ∀ (fs : List ak_Fr) (aw : List Bool), ak_LO c g hc hm aw fs → ∀ y, y ∈ ak_rms fs → y ∈ g.Us := by
    intro fs
    induction fs with
    | nil => intro aw _ y hy; cases hy
    | cons f fs ih =>
      intro aw w y hy
      rcases List.mem_cons.mp (show y ∈ f.r :: ak_rms fs from hy) with rfl | hy
      · exact w.1.1.1
      · exact ih _ w.2 y hy
  exact this _ _ lo y hy
end VAL
