/-! the run: a statement's end: a value given, a choice -/
section DON3
variable {e : ak_X3} {d ρ1 ρ2 W y n T0 o slot hops r' kd m f' : Nat} {ρ : List Nat} {c : ak_Cx} {g : ak_Gh} {fs : List ak_Fr} {f : ak_Fr} {h hc hm hcS hmS : ak_S} {j : ak_Jb} {r : List ak_Jb} {v : Bool × Int × Int} {s x : Int}
/-- a value goes to the frame below one that is under way -/
theorem ak_OUTgv {p q0 : List Nat} (w : ak_RN c g (f :: fs) hc hm) (fj : f.js = j :: r) (hk : j.k < 9) (pc9 : f.pc < 9100) (sp : ak_SPP c g (ak_rms (f :: fs)) hcS hmS) (kc : ak_kpC g (ak_rms (f :: fs)) fs.length (ak_nV fs) hc hcS) (km : ak_kpM (ak_nJ fs + 1 + r.length) (ak_nT fs) hm hmS) (c11 : hcS.1 32 11 = -1) (m132 : hmS.1 110 132 = ((ak_nJ fs + 1 + r.length : Nat) : Int)) (m105 : hmS.1 110 105 = -1) (vk : ak_vok g.O g.B s x) (h104 : hmS.1 110 104 = hm.1 110 104) (hsm : ∀ q, 109 ≤ q → q ≤ 111 → hmS.1 110 q = hm.1 110 q) (h22 : hcS.2.2 = hc.2.2) (hr : f.r :: ak_rms fs = p ++ r' :: q0)
    (gC : ∀ hcX, ak_cgo e (d + 30) c.s ρ1 ρ2 54 [am_r 77, am_i 2, am_i 0, am_i s, am_l x, am_i (q0.length : Int)] hcS hcX → ak_cgo e (d + 40) c.s ρ1 ρ2 72 [am_r 32] hc hcX) (gM : ∀ hm', ak_goV e (d + 25) ρ 279 [am_r 110, am_i (g.φ r' : Int), am_i s, am_l x] hmS hm' → ak_mgo e (d + 40) ρ hm hm') : ak_OUT e d ρ1 ρ2 ρ c (ak_Phi hm (f :: fs)) W hc hm := by
  obtain ⟨hs, l60, fU, f5, φ5, sp0, F, L, J, V, K, ⟨l1, l2, l3⟩, ⟨d2, d3, d4, d5, o1, o2⟩, ⟨e1, e2, e3, e4, e5, o3⟩, _⟩ := ak_tp w
  rw [fj] at J K l1 l3 d4 e5
  obtain ⟨g1, g2, g3⟩ := ak_gc_of (r := r) hk
  rw [g1] at d4 l3
  rw [g2] at e5
  rw [List.length_cons] at l1
  have gl := ak_gle_refl w
  obtain ⟨k1, k2, k3⟩ := kc
  obtain ⟨n1, n2⟩ := km
  have gf := gl.2.2 f.r (by simp [ak_rms])
  have hsub : ∀ y, y ∈ ak_rms fs → y ∈ ak_rms (f :: fs) := fun y h => by simp [ak_rms] at h ⊢; exact Or.inr h
  obtain ⟨hcX, hc', hm', q1, q2, q3, q4, q5, q6⟩ := ak_give (e := e) (d := d) (ρ1 := ρ1) (ρ2 := ρ2) (ρ := ρ) (g := g) (js := r) hs pc9 sp
    (ak_F0_fr F (fun y hy => (gl.2.2 y hy).2.1) gf.1 gf.2.2.2.1 (fun q a b h1 _ => k1 q _ (by omega)) (by rw [k1 73 _ (by omega), n1 183 _ (by omega)]; exact F.1.2.2.2.1) (k3 f.r (by simp [ak_rms])).1 (n1 176 _ (by omega)) (fun q a b => n1 q _ (by omega)))
    (ak_LO_kp ⟨gl.1, gl.2.1, fun y hy => gl.2.2 y (hsub y hy)⟩ L (fun q k h => k1 q k (by omega)) (fun q k h => k2 q k (by omega)) (fun y hy => k3 y (hsub y hy)) (fun q k h => n1 q k (by omega)) (fun q k h => n2 q k (by omega))) l60 ((k1 69 7 (by omega)).trans d2) (by
      rw [k1 69 8 (by omega), d3]; exact (ak_nH_fr (fun k _ => k1 76 k (by omega))).symm) ((k1 77 4 (by omega)).trans d4) c11
    ((n1 110 102 (by omega)).trans e1) ((n1 110 103 (by omega)).trans e2) m132 ((n1 110 139 (by omega)).trans e5) m105
    (ak_JS_fr gl.1 gl.2.1 (fun y hy => (gl.2.2 y hy).2.1) J.2.2.2 (fun q k a b _ => ⟨k1 q k (by omega), k2 q k (by omega)⟩) (fun q k a b _ => n1 q k (by omega)) (fun q k a b _ => ⟨n1 q k (by omega), n2 q k (by omega)⟩))
    (ak_K_tl K) (by omega) l3 (by rw [fj, g3]; exact Nat.le_refl _) vk hr
  rcases q6 with ⟨g2', fs', h1, h2, h3, h4⟩ | ⟨o, h⟩
  · refine Or.inl ⟨1, g2', fs', hc', hm', h1, h2, ak_turnU hs (by omega) (gC _ q1) q2 q3, gM _ q4, ?_, fun h => absurd h (by decide), q5.trans h22, fun q a b => by rw [h4 q (Or.inr ⟨a, b⟩), hsm q a b]; omega⟩
    unfold ak_Phi
    rw [h4 104 (Or.inl rfl), h104]
    omega
  · refine Or.inr ⟨1, hc', hm', o, h, ?_, ak_turnU hs (by omega) (gC _ q1) q2 q3, gM _ q4, q5.trans h22⟩
    unfold ak_Phi
    show 1 ≤ _ + (ak_pcs fs + (9100 - f.pc) + 9101 * ak_gw f.js)
    omega
/-- an answer -/
theorem ak_dn_32 (w : ak_RN c g (f :: fs) hc hm) (fj : f.js = j :: r) (hk : j.k = 4) (hy : j.n = (y : Int)) (fv : f.vs = [v]) (v1 : v.1 = true) (h114 : ak_mM c.us c.m0 114 y = 32) (h2 : ak_mC c.s c.h0 (ak_T c.s + 2) f.pc = ((33 : Nat) : Int)) : ak_OUT e d ρ1 ρ2 ρ c (ak_Phi hm (f :: fs)) W hc hm := by
  obtain ⟨hs, l60, fU, f5, φ5, sp0, F, L, J0, V, K0, ⟨l1, l2, l3⟩, ⟨d2, d3, d4, d5, o1, o2⟩, ⟨e1, e2, e3, e4, e5, o3⟩, ⟨x1, x2, x3, x4⟩, d72, lt1⟩ := ak_tp w
  obtain ⟨t1, t2, t3, t4, t5, t6⟩ := ak_tj w fj
  obtain ⟨b1, b2, b3, b4⟩ := ak_cd sp0 h2 (by decide)
  obtain ⟨y18, yq⟩ := ak_nde (q0 := 114) (y := y) sp0 (by omega) (by rw [h114]; decide)
  have yO : ∀ q, 114 ≤ q → q ≤ 120 → (ak_poM hm (ak_nJ fs + 1 + r.length)).1 q y = ak_mM c.us c.m0 q y := fun q a b => (ak_poM_o (by omega)).trans (yq q a b)
  obtain ⟨hcS, hmS, eM, ⟨SO, S12, S72, S10, S2⟩, ⟨MO, M127, M132, M2⟩, ⟨vk, s1, s2, p4, p5, p127, pT⟩, C27, C29, C31, C32, C33, C35⟩ := ak_dn1 (e := e) (d := d) (ρ1 := ρ1) (ρ2 := ρ2) w fj hk fv v1 h2 (by decide)
  have job : ∀ hm', ak_goV e (d + 40) ρ 293 [am_r 110, am_i j.n] (ak_poM hm (ak_nJ fs + 1 + r.length)) hm' → ak_mgo e (d + 40) ρ hm hm' := fun hm' h => ak_job t1 (by omega) (by omega) t3 t4 (fun z => absurd z (by omega)) (fun z => absurd z (by omega)) (fun z => absurd z (by omega)) (fun _ => h) (by omega)
  have spS : ak_SPP c g (ak_rms (f :: fs)) hcS hmS := ak_SP_fr sp0 (fun q k h => ⟨SO q k (by unfold ak_stC at h; omega) (by unfold ak_stC at h; omega), by rw [S2]⟩) (fun q k h => ⟨MO q k (fun z => h.1 ⟨z.1, by omega⟩), by rw [M2]⟩)
  have P102 : (ak_poM hm (ak_nJ fs + 1 + r.length)).1 110 102 = (g.φ f.r : Int) := (ak_poM_o (by omega)).trans e1
  have el : (ak_rms fs).length = fs.length := by simp [ak_rms]
  exact ak_OUTgv (p := []) (q0 := ak_rms fs) (r' := f.r) (s := v.2.1) (x := v.2.2) w fj (by omega) (by omega) spS ⟨fun q k h => SO q k (by omega) (by omega), fun _ _ _ => by rw [S2], fun y hy => ⟨SO _ _ (by omega) (by omega), SO _ _ (by omega) (by omega), by rw [S2]⟩⟩ ⟨fun q k h => MO q k (by omega), fun q k h => by rw [M2]⟩ ((SO _ _ (by omega) (by omega)).trans o1) M132 ((MO _ _ (by omega)).trans o3) vk (MO _ _ (by omega)) (fun q a b => MO 110 q (by omega)) (by rw [S2]) rfl
    (fun hcX h Q X q => C33 Q X rfl (by rw [el] at h; exact ak_MV_deep (show d + 30 ≤ d + 38 by omega) (h _ _ q))) (fun hm' h => job _ (fun Q X q => by
      rw [hy]
      refine ak_293_32 (d := d + 39) (T0 := ak_nT fs) (s := v.2.1) (x := v.2.2) y18 ((yO 114 (by omega) (by omega)).trans h114) p127 pT p4 p5 ?_
      rw [P102, ← eM]
      exact ak_MV_deep (show d + 25 ≤ d + 39 by omega) (h _ _ q)))
theorem ak_rms_split : ∀ {fs : List ak_Fr} {p : List Nat} {z : Nat} {q0 : List Nat}, ak_rms fs = p ++ z :: q0 → ∃ P x Q0, fs = P ++ x :: Q0 ∧ ak_rms P = p ∧ x.r = z ∧ ak_rms Q0 = q0 := by
  intro fs
  induction fs with
  | nil => intro p z q0 h; exact absurd h (by simp [ak_rms])
  | cons f fs ih =>
    intro p z q0 h
    cases p with
    | nil =>
      obtain ⟨a, b⟩ := List.cons.inj (show f.r :: ak_rms fs = z :: q0 from h)
      exact ⟨[], f, fs, rfl, rfl, a, b⟩
    | cons p0 p =>
      obtain ⟨a, b⟩ := List.cons.inj (show f.r :: ak_rms fs = p0 :: (p ++ z :: q0) from h)
      obtain ⟨P, x, Q0, e1, e2, e3, e4⟩ := ih b
      refine ⟨f :: P, x, Q0, by rw [e1]; rfl, ?_, e3, e4⟩
      show f.r :: ak_rms P = p0 :: p
      rw [a, e2]
theorem am_s294 {Q : Int → ak_S → Prop} {X : Nat → ak_S → Prop} (e132 : h.1 110 132 = (m : Int)) (m2 : m ≤ 370000) (q1 : (∃ x, x < m ∧ h.1 201 x = 8 ∧ h.1 202 x = s) → Q 1 h) (q0 : (∀ x, x < m → h.1 201 x = 8 → h.1 202 x ≠ s) → Q 0 h) : ak_MI e 1 (d + 1) ρ 294 [am_r 110, am_i s] h Q X := by
  have lp : ∀ (b x : Nat), x + b = m → (∀ y, y < x → h.1 201 y = 8 → h.1 202 y ≠ s) → ak_W0 e 1 d 294 ρ 2 [some (am_r 110), some (am_i s), some (am_i (x : Int))] [] h (ak_qi Q X) := by
    intro b
    induction b with
    | zero =>
      intro x hx hy
      have : x = m := by omega
      subst this
      exact am_k294_2 ⟨fun _ => ⟨Or.inl rfl, q0 hy⟩, fun z => absurd z (by omega)⟩
    | succ b ih =>
      intro x hx hy
      have bx : 0 ≤ (x : Int) ∧ (x : Int) < 370000 := by omega
      refine am_k294_2 ⟨fun z => absurd z (by omega), fun _ => ?_⟩
      rw [ak_natn, ak_wj (show x < 1000000 by omega)]
      refine ⟨bx, fun g => ih (x + 1) (by omega) (fun y hy1 hy2 => ?_), fun g => ⟨bx, fun g2 => ih (x + 1) (by omega) (fun y hy1 hy2 => ?_), fun g2 => ⟨Or.inr rfl, q1 ⟨x, by omega, g, g2⟩⟩⟩⟩
      · by_cases hyx : y = x
        · subst hyx; exact absurd hy2 g
        · exact hy y (by omega) hy2
      · by_cases hyx : y = x
        · subst hyx; exact g2
        · exact hy y (by omega) hy2
  exact ak_MI_of (Nat.le_of_ble_eq_true rfl) (am_k294_0 (lp m 0 (by omega) (fun y hy => absurd hy (Nat.not_lt_zero _))))
/-- every room under way has its job -/
theorem ak_und_lo : ∀ {fs : List ak_Fr} {aw : List Bool}, ak_LO c g hc hm aw fs → ∀ z, z ∈ ak_rms fs → ∃ x, x < ak_nJ fs ∧ hm.1 201 x = 8 ∧ hm.1 202 x = (g.φ z : Int) := by
  intro fs
  induction fs with
  | nil => intro _ _ z hz; cases hz
  | cons f fs ih =>
    intro aw w z hz
    obtain ⟨⟨_, ⟨b1, b2, _⟩, _⟩, lo⟩ := w
    have nJ : ak_nJ (f :: fs) = ak_nJ fs + 1 + f.js.length := rfl
    rcases List.mem_cons.mp (show z ∈ f.r :: ak_rms fs from hz) with rfl | hz
    · exact ⟨ak_nJ fs, by omega, b1, b2⟩
    · obtain ⟨x, a1, a2, a3⟩ := ih lo z hz
      exact ⟨x, by omega, a2, a3⟩
/-- a return -/
theorem ak_dn_31 (w : ak_RN c g (f :: fs) hc hm) (fj : f.js = j :: r) (hk : j.k = 4) (hy : j.n = (y : Int)) (fv : f.vs = [v]) (v1 : v.1 = true) (h114 : ak_mM c.us c.m0 114 y = 31) (h2 : ak_mC c.s c.h0 (ak_T c.s + 2) f.pc = ((if g.lv f.r = 0 then 33 else 32 : Nat) : Int)) (cnt : hm.1 110 109 < 1000000000) : ak_OUT e d ρ1 ρ2 ρ c (ak_Phi hm (f :: fs)) W hc hm := by
  have h2' : 26 < (if g.lv f.r = 0 then 33 else 32) := by split <;> decide
  obtain ⟨hs, l60, fU, f5, φ5, sp0, F, L, J0, V, K0, ⟨l1, l2, l3⟩, ⟨d2, d3, d4, d5, o1, o2⟩, ⟨e1, e2, e3, e4, e5, o3⟩, ⟨x1, x2, x3, x4⟩, d72, lt1⟩ := ak_tp w
  obtain ⟨t1, t2, t3, t4, t5, t6⟩ := ak_tj w fj
  obtain ⟨b1, b2, b3, b4⟩ := ak_cd sp0 h2 (by omega)
  obtain ⟨y18, yq⟩ := ak_nde (q0 := 114) (y := y) sp0 (by omega) (by rw [h114]; decide)
  have yO : ∀ q, 114 ≤ q → q ≤ 120 → (ak_poM hm (ak_nJ fs + 1 + r.length)).1 q y = ak_mM c.us c.m0 q y := fun q a b => (ak_poM_o (by omega)).trans (yq q a b)
  obtain ⟨hcS, hmS, eM, ⟨SO, S12, S72, S10, S2⟩, ⟨MO, M127, M132, M2⟩, ⟨vk, s1, s2, p4, p5, p127, pT⟩, C27, C29, C31, C32, C33, C35⟩ := ak_dn1 (e := e) (d := d) (ρ1 := ρ1) (ρ2 := ρ2) w fj hk fv v1 h2 h2'
  have job : ∀ hm', ak_goV e (d + 40) ρ 293 [am_r 110, am_i j.n] (ak_poM hm (ak_nJ fs + 1 + r.length)) hm' → ak_mgo e (d + 40) ρ hm hm' := fun hm' h => ak_job t1 (by omega) (by omega) t3 t4 (fun z => absurd z (by omega)) (fun z => absurd z (by omega)) (fun z => absurd z (by omega)) (fun _ => h) (by omega)
  have spS : ak_SPP c g (ak_rms (f :: fs)) hcS hmS := ak_SP_fr sp0 (fun q k h => ⟨SO q k (by unfold ak_stC at h; omega) (by unfold ak_stC at h; omega), by rw [S2]⟩) (fun q k h => ⟨MO q k (fun z => h.1 ⟨z.1, by omega⟩), by rw [M2]⟩)
  have P102 : (ak_poM hm (ak_nJ fs + 1 + r.length)).1 110 102 = (g.φ f.r : Int) := (ak_poM_o (by omega)).trans e1
  have el : (ak_rms fs).length = fs.length := by simp [ak_rms]
  obtain ⟨hrU, h53, h178, hlv⟩ := (sp0.2.2.2.2.1.2.1 _ fU).2.1
  have alt := (sp0.2.2.2.2.1.2.1 _ fU).2.2.1
  have rh := (sp0.2.2.2.2.1.2.1 _ hrU).2.2.2.2.1
  have fre := sp0.2.2.2.2.1.1
  have φh : g.φ (g.hr f.r) < 564 := fre.2.2.2.2.1 _ hrU
  have h5 : g.hr f.r < 560 := (fre.2.2.2.1 _).mp (List.mem_append_right _ hrU)
  have a1 : g.lv f.r = 0 → g.hr f.r = f.r := by
    intro z
    rcases alt with ⟨_, a, _⟩ | ⟨r', _, _, _, _, a, _⟩
    · exact a
    · omega
  clear alt fre
  have bf : 0 ≤ (g.φ f.r : Int) ∧ (g.φ f.r : Int) < 564 := by omega
  have bh : 0 ≤ (g.φ (g.hr f.r) : Int) ∧ (g.φ (g.hr f.r) : Int) < 564 := by omega
  have P178 : (ak_poM hm (ak_nJ fs + 1 + r.length)).1 178 (g.φ f.r) = (g.φ (g.hr f.r) : Int) := (ak_poM_o (by omega)).trans h178
  have P175 : (ak_poM hm (ak_nJ fs + 1 + r.length)).1 175 (g.φ (g.hr f.r)) = hm.1 175 (g.φ (g.hr f.r)) := ak_poM_o (by omega)
  have kcS : ak_kpC g (ak_rms (f :: fs)) fs.length (ak_nV fs) hc hcS := ⟨fun q k h => SO q k (by omega) (by omega), fun _ _ _ => by rw [S2], fun y hy => ⟨SO _ _ (by omega) (by omega), SO _ _ (by omega) (by omega), by rw [S2]⟩⟩
  have kmS : ak_kpM (ak_nJ fs + 1 + r.length) (ak_nT fs) hm hmS := ⟨fun q k h => MO q k (by omega), fun q k h => by rw [M2]⟩
  have gM0 : ∀ (Q : ak_S → Prop) (X : Nat → ak_S → Prop), ((hm.1 175 (g.φ (g.hr f.r)) = 0 → ak_MV e 1 (d + 39) ρ 270 [am_r 110, am_i 9] hmS Q (fun _ _ => False)) ∧ (hm.1 175 (g.φ (g.hr f.r)) ≠ 0 → ak_MI e 1 (d + 39) ρ 294 [am_r 110, am_i (g.φ (g.hr f.r) : Int)] hmS (fun v17 h16 => (v17 = 0 → ak_MV e 1 (d + 39) ρ 270 [am_r 110, am_i 9] h16 Q (fun _ _ => False)) ∧ (v17 ≠ 0 → (0 ≤ h16.1 110 102 ∧ h16.1 110 102 < 564) ∧ ak_MV e 1 (d + 39) ρ 279 [am_r 110, am_i (h16.1 178 (h16.1 110 102).toNat), am_i v.2.1, am_l v.2.2] h16 Q (fun _ _ => False))) (fun _ _ => False))) → ak_MV e 1 (d + 40) ρ 293 [am_r 110, am_i j.n] (ak_poM hm (ak_nJ fs + 1 + r.length)) Q X := fun Q X q => by
    rw [hy]
    refine ak_293_31 (d := d + 39) (T0 := ak_nT fs) (s := v.2.1) (x := v.2.2) y18 ((yO 114 (by omega) (by omega)).trans h114) p127 pT p4 p5 ?_
    rw [P102, ak_natn, P178, ak_natn, P175, ← eM]
    exact ⟨bf, bh, q.1, fun z => ⟨bf, q.2 z⟩⟩
  have f70 : hcS.1 70 fs.length = (f.r : Int) := (SO _ _ (by omega) (by omega)).trans F.1.2.1
  rcases rh with ⟨hV, h175, h54⟩ | ⟨hV, h175, h54, _⟩
  · -- it is under way
    obtain ⟨p, q0, hr⟩ : ∃ p q0, f.r :: ak_rms fs = p ++ g.hr f.r :: q0 := List.append_of_mem (show g.hr f.r ∈ f.r :: ak_rms fs from hV)
    have e54 : hc.1 54 (g.hr f.r) = (q0.length : Int) := by
      cases p with
      | nil =>
        obtain ⟨a, b⟩ := List.cons.inj (show f.r :: ak_rms fs = g.hr f.r :: q0 from hr)
        rw [← a, F.1.2.2.2.2.2.2.2.2, ← b, el]
      | cons p0 p =>
        have hb := (List.cons.inj (show f.r :: ak_rms fs = p0 :: (p ++ g.hr f.r :: q0) from hr)).2
        have rows := (ak_LO_row L).1
        obtain ⟨P, x, Q0, e1', e2', e3', e4'⟩ := ak_rms_split hb
        have := (rows P x Q0 e1').2.2.2
        rw [e3'] at this
        rw [this, ← e4']
        simp [ak_rms]
    have job8 : ∃ x, x < ak_nJ fs + 1 + r.length ∧ hmS.1 201 x = 8 ∧ hmS.1 202 x = (g.φ (g.hr f.r) : Int) := by
      rcases List.mem_cons.mp (show g.hr f.r ∈ f.r :: ak_rms fs from hV) with hz | hz
      · exact ⟨ak_nJ fs, by omega, (MO _ _ (by omega)).trans F.2.1, (MO _ _ (by omega)).trans (by rw [hz]; exact F.2.2.1)⟩
      · obtain ⟨x, b1, b2, b3⟩ := ak_und_lo L _ hz
        exact ⟨x, by omega, (MO _ _ (by omega)).trans b2, (MO _ _ (by omega)).trans b3⟩
    refine ak_OUTgv (p := p) (q0 := q0) (r' := g.hr f.r) (s := v.2.1) (x := v.2.2) w fj (by omega) (by omega) spS kcS kmS ((SO _ _ (by omega) (by omega)).trans o1) M132 ((MO _ _ (by omega)).trans o3) vk (MO _ _ (by omega)) (fun q a b => MO 110 q (by omega)) (by rw [S2]) hr (fun hcX h Q X q => ?_) (fun hm' h => job _ (fun Q X q => gM0 Q X ⟨fun z => absurd z (by omega), fun _ => ?_⟩))
    · by_cases hl : g.lv f.r = 0
      · refine C33 Q X (if_pos hl) ?_
        have : (q0.length : Int) = (fs.length : Int) := by rw [← e54, a1 hl, F.1.2.2.2.2.2.2.2.2]
        rw [this] at h
        exact ak_MV_deep (show d + 30 ≤ d + 38 by omega) (h _ _ q)
      · refine C32 Q X (if_neg hl) ?_
        refine ak_MV_of (Nat.le_of_ble_eq_true rfl) (am_k98_0 hs ?_)
        rw [S12, ak_natn, f70, ak_natn, SO 53 _ (by omega) (by omega), h53, ak_natn, SO 54 _ (by omega) (by omega), e54, ak_natn, s1, s2]
        exact ⟨by omega, by omega, by omega, fun _ => ⟨by omega, by omega, ak_MV_deep (show d + 30 ≤ d + 37 by omega) (h _ _ q)⟩, fun z => absurd z (by omega)⟩
    · refine am_s294 (d := d + 38) M132 (by omega) (fun _ => ⟨fun z => absurd z (by decide), fun _ => ?_⟩) (fun hall => ?_)
      · rw [MO 110 102 (by omega), e1, ak_natn, MO 178 _ (by omega), h178]
        exact ⟨bf, ak_MV_deep (show d + 25 ≤ d + 39 by omega) (h _ _ q)⟩
      · obtain ⟨x, b1, b2, b3⟩ := job8
        exact absurd b3 (hall x b1 b2)
  · -- it is not
    have hl : g.lv f.r ≠ 0 := fun z => hV (by rw [a1 z]; simp [ak_rms])
    refine ak_OUTf (kd := 9) (s := 0) (x := 0) w fj (by omega) (by omega) spS (ak_gle_refl w) kcS kmS ((SO _ _ (by omega) (by omega)).trans o1) S12 M132 ((MO _ _ (by omega)).trans o3) ak_vk0 cnt (by rw [MO _ _ (by omega)]; exact Int.le_refl _) (fun q a b => MO 110 q (by omega)) (by rw [S2]) (fun hcX h Q X q => C32 Q X (if_neg hl) ?_) (fun hm' h => job _ (fun Q X q => gM0 Q X ⟨fun _ => ak_MV_of (Nat.le_of_ble_eq_true rfl) (am_k270_0 (ak_MV_deep (show d + 25 ≤ d + 38 by omega) (h _ _ q))), fun z => absurd h175 z⟩))
    refine ak_MV_of (Nat.le_of_ble_eq_true rfl) (am_k98_0 hs ?_)
    rw [S12, ak_natn, f70, ak_natn, SO 53 _ (by omega) (by omega), h53, ak_natn, SO 54 _ (by omega) (by omega), h54]
    exact ⟨by omega, by omega, by omega, fun z => absurd z (by decide), fun _ => ak_MV_deep (show d + 30 ≤ d + 37 by omega) (h _ _ q)⟩
/-- a choice -/
theorem ak_dn_29 {c2 j1 G : Nat} (w : ak_RN c g (f :: fs) hc hm) (fj : f.js = j :: r) (hk : j.k = 4) (hy : j.n = (y : Int)) (fv : f.vs = [v]) (v1 : v.1 = true) (h114 : ak_mM c.us c.m0 114 y = 29) (h2 : ak_mC c.s c.h0 (ak_T c.s + 2) f.pc = ((31 : Nat) : Int)) (jl : r.length + j1 ≤ 6165) (gl : ak_gc r + G ≤ 21) (t : ak_T3 (ak_mC c.s c.h0) (ak_mM c.us c.m0) (ak_T c.s) c.us 2 (ak_mM c.us c.m0 116 y) 0 (g.mt f.r + 40 * g.lv f.r + 1000 * G) j1 (f.pc + 1) c2) (K : ak_K (ak_mC c.s c.h0) (ak_mM c.us c.m0) (ak_T c.s) c.us (g.mt f.r + 40 * g.lv f.r) r c2 [])
    (D : (ak_mM c.us c.m0 117 y = -1 ∧ ak_mC c.s c.h0 (ak_T c.s + 3) f.pc = (c2 : Int)) ∨ ∃ cc j2 : Nat, ak_mC c.s c.h0 (ak_T c.s + 3) f.pc = ((c2 + 1 : Nat) : Int) ∧ r.length + j2 ≤ 6165 ∧ ak_T3 (ak_mC c.s c.h0) (ak_mM c.us c.m0) (ak_T c.s) c.us 2 (ak_mM c.us c.m0 117 y) 0 (g.mt f.r + 40 * g.lv f.r + 1000 * G) j2 (c2 + 1) cc ∧ ak_K (ak_mC c.s c.h0) (ak_mM c.us c.m0) (ak_T c.s) c.us (g.mt f.r + 40 * g.lv f.r) r cc []) : ak_OUT e d ρ1 ρ2 ρ c (ak_Phi hm (f :: fs)) W hc hm := by
  obtain ⟨hs, l60, fU, f5, φ5, sp0, F, L, J0, V, K0, ⟨l1, l2, l3⟩, ⟨d2, d3, d4, d5, o1, o2⟩, ⟨e1, e2, e3, e4, e5, o3⟩, ⟨x1, x2, x3, x4⟩, d72, lt1⟩ := ak_tp w
  obtain ⟨t1, t2, t3, t4, t5, t6⟩ := ak_tj w fj
  obtain ⟨b1, b2, b3, b4⟩ := ak_cd sp0 h2 (by decide)
  obtain ⟨y18, yq⟩ := ak_nde (q0 := 114) (y := y) sp0 (by omega) (by rw [h114]; decide)
  have yO : ∀ q, 114 ≤ q → q ≤ 120 → (ak_poM hm (ak_nJ fs + 1 + r.length)).1 q y = ak_mM c.us c.m0 q y := fun q a b => (ak_poM_o (by omega)).trans (yq q a b)
  obtain ⟨hcS, hmS, eM, ⟨SO, S12, S72, S10, S2⟩, ⟨MO, M127, M132, M2⟩, ⟨vk, s1, s2, p4, p5, p127, pT⟩, C27, C29, C31, C32, C33, C35⟩ := ak_dn1 (e := e) (d := d) (ρ1 := ρ1) (ρ2 := ρ2) w fj hk fv v1 h2 (by decide)
  have job : ∀ hm', ak_goV e (d + 40) ρ 293 [am_r 110, am_i j.n] (ak_poM hm (ak_nJ fs + 1 + r.length)) hm' → ak_mgo e (d + 40) ρ hm hm' := fun hm' h => ak_job t1 (by omega) (by omega) t3 t4 (fun z => absurd z (by omega)) (fun z => absurd z (by omega)) (fun z => absurd z (by omega)) (fun _ => h) (by omega)
  have spS : ak_SPP c g (ak_rms (f :: fs)) hcS hmS := ak_SP_fr sp0 (fun q k h => ⟨SO q k (by unfold ak_stC at h; omega) (by unfold ak_stC at h; omega), by rw [S2]⟩) (fun q k h => ⟨MO q k (fun z => h.1 ⟨z.1, by omega⟩), by rw [M2]⟩)
  have P102 : (ak_poM hm (ak_nJ fs + 1 + r.length)).1 110 102 = (g.φ f.r : Int) := (ak_poM_o (by omega)).trans e1
  have tl := ak_T3_le t
  have j1p := (ak_T3_open t).1
  have g29 := fun (Q : ak_S → Prop) (X : Nat → ak_S → Prop) q => ak_293_29 (e := e) (ρ := ρ) (X := X) (Q := Q) (d0 := d + 38) (T0 := ak_nT fs) (s := v.2.1) (x := v.2.2) y18 ((yO 114 (by omega) (by omega)).trans h114) p127 pT p4 p5 q
  rw [yO 116 (by omega) (by omega), yO 117 (by omega) (by omega), ← eM] at g29
  -- whichever it is
  have fin : ∀ (x0 : Int) (pc' : Nat) (hcF : ak_S), f.pc < pc' → (∀ q k, ¬ (q = 72 ∧ k = fs.length) → hcF.1 q k = hcS.1 q k) → hcF.1 72 fs.length = (pc' : Int) → hcF.2 = hcS.2 → (∃ i cc, r.length + i ≤ 6165 ∧ ak_T3 (ak_mC c.s c.h0) (ak_mM c.us c.m0) (ak_T c.s) c.us 2 x0 0 (g.mt f.r + 40 * g.lv f.r + 1000 * G) i pc' cc ∧ ak_K (ak_mC c.s c.h0) (ak_mM c.us c.m0) (ak_T c.s) c.us (g.mt f.r + 40 * g.lv f.r) r cc []) → ak_cgo e (d + 40) c.s ρ1 ρ2 72 [am_r 32] hc hcF → (∀ (Q : ak_S → Prop) (X : Nat → ak_S → Prop), ak_MV e 1 (d + 39) ρ 266 [am_r 110, am_i 2, am_i x0, am_i 0, am_i 0] hmS Q (fun _ _ => False) → ak_MV e 1 (d + 40) ρ 293 [am_r 110, am_i j.n] (ak_poM hm (ak_nJ fs + 1 + r.length)) Q X) → ak_OUT e d ρ1 ρ2 ρ c (ak_Phi hm (f :: fs)) W hc hm := by
    intro x0 pc' hcF hpc CO C72 C2 ⟨i, cc, il, t0, K0'⟩ gC gM
    have C : ∀ q k, ¬ (q = 32 ∧ (k = 10 ∨ k = 12)) → ¬ (q = 72 ∧ k = fs.length) → hcF.1 q k = hc.1 q k := fun q k a b => (CO q k b).trans (SO q k a b)
    have CJ : hcF.2 = hc.2 := C2.trans S2
    have ip := (ak_T3_open t0).1
    have go : ∀ (Q : ak_S → Prop) (X : Nat → ak_S → Prop), Q (ak_jbM hmS (ak_nJ fs + 1 + r.length) ((2 : Nat) : Int) x0 0 0) → ak_MV e 1 (d + 39) ρ 266 [am_r 110, am_i 2, am_i x0, am_i 0, am_i 0] hmS Q X := fun Q X q => am_s266 (d := d + 38) (n := ak_nJ fs + 1 + r.length) M132 (by omega) q
    have NO : ∀ q k, ¬ (q = 110 ∧ k = 132) → ¬ (201 ≤ q ∧ q ≤ 204 ∧ k = ak_nJ fs + 1 + r.length) → (ak_jbM hmS (ak_nJ fs + 1 + r.length) ((2 : Nat) : Int) x0 0 0).1 q k = hmS.1 q k := fun q k a b => ak_jb_out a b
    have N132 : (ak_jbM hmS (ak_nJ fs + 1 + r.length) ((2 : Nat) : Int) x0 0 0).1 110 132 = ((ak_nJ fs + 1 + r.length + 1 : Nat) : Int) := ak_jb_132
    have N2 : (ak_jbM hmS (ak_nJ fs + 1 + r.length) ((2 : Nat) : Int) x0 0 0).2 = hmS.2 := rfl
    have tS : ak_JS g.O g.B g.φ (f.r :: ak_rms fs) fs.length (ak_nJ fs + 1) (ak_nG fs) (ak_nK fs) (ak_nT fs) hcF hmS r := ak_JS_fr (Nat.le_refl _) (Nat.le_refl _) (fun _ _ => rfl) t6 (fun q k a b _ => ⟨C q k (by omega) (by omega), by rw [CJ]⟩) (fun q k a b _ => MO q k (by omega)) (fun q k a b _ => ⟨MO q k (by omega), by rw [M2]⟩)
    have JJ : ak_JS g.O g.B g.φ (f.r :: ak_rms fs) fs.length (ak_nJ fs + 1) (ak_nG fs) (ak_nK fs) (ak_nT fs) hcF (ak_jbM hmS (ak_nJ fs + 1 + r.length) ((2 : Nat) : Int) x0 0 0) (⟨2, x0, 0, 0, 0⟩ :: r) := ak_JS_jb tS (by decide)
    generalize ak_jbM hmS (ak_nJ fs + 1 + r.length) ((2 : Nat) : Int) x0 0 0 = hmF at go NO N132 N2 JJ
    have M : ∀ q k, ¬ (q = 110 ∧ (k = 127 ∨ k = 132)) → ¬ (201 ≤ q ∧ q ≤ 204 ∧ k = ak_nJ fs + 1 + r.length) → hmF.1 q k = hm.1 q k := fun q k a b => (NO q k (by omega) b).trans (MO q k a)
    have MJ : hmF.2 = hm.2 := N2.trans M2
    exact ak_red (u := [v]) (l := []) (js := ⟨2, x0, 0, 0, 0⟩ :: r) (pc' := pc') w fj (by omega) (by omega) (by rw [fv]; rfl) hpc (ak_SP_fr spS (fun q k h => ⟨CO q k (by unfold ak_stC at h; omega), by rw [C2]⟩) (fun q k h => ⟨NO q k (by unfold ak_stM at h; omega) (by unfold ak_stM at h; omega), by rw [N2]⟩)) (ak_gle_refl w) ⟨fun q k h => C q k (by omega) (by omega), fun q k h => by rw [CJ], fun y _ => ⟨C _ _ (by omega) (by omega), C _ _ (by omega) (by omega), by rw [CJ]⟩⟩ ⟨fun q k h => M q k (by omega) (by omega), fun q k h => by rw [MJ]⟩ C72 ((CO _ _ (by omega)).trans S10) ((C _ _ (by omega) (by omega)).trans o1) ((C _ _ (by omega) (by omega)).trans o2) ((M _ _ (by omega) (by omega)).trans o3) ((NO _ _ (by omega) (by omega)).trans M127) N132
      JJ ⟨rfl, rfl, rfl⟩ (ak_K_mk (j := ⟨2, x0, 0, 0, 0⟩) ⟨rfl, cc, i, G, il, gl, t0, K0'⟩) (by rw [List.length_cons]; omega) gC (job _ (fun Q X q => gM Q X (go _ _ q))) (by rw [M _ _ (by omega) (by omega)]; exact Int.le_refl _) (fun q a b => by rw [M 110 q (by omega) (by omega)]; omega) (by rw [CJ])
  by_cases nt : ak_tr v.2.1 v.2.2 = true
  · exact fin _ (f.pc + 1) hcS (by omega) (fun _ _ _ => rfl) S72 rfl ⟨j1, c2, jl, t, K⟩ (fun Q X q => C31 Q X rfl ⟨fun _ => q, fun z => absurd nt z⟩) (fun Q X q => by rw [hy]; exact g29 Q X ⟨fun _ => q, fun z => absurd nt z⟩)
  · rcases D with ⟨m117, h3⟩ | ⟨cc, j2, h3, jl2, t2, K2⟩
    · refine fin (-1) c2 (am_up hcS.1 72 fs.length (c2 : Int), hcS.2) (by omega) (fun q k a => ak_up_out1 a) ak_up_at1 rfl ⟨j1, c2, jl, ak_T3_fold ⟨j1p, Or.inl ⟨rfl, rfl⟩⟩, K⟩ (fun Q X q => C31 Q X rfl ⟨fun z => absurd z nt, fun _ => by rw [h3]; exact q⟩) (fun Q X q => ?_)
      rw [hy]
      refine g29 Q X ⟨fun z => absurd z nt, fun _ => ?_⟩
      rw [m117]
      exact q
    · exact fin _ (c2 + 1) (am_up hcS.1 72 fs.length ((c2 + 1 : Nat) : Int), hcS.2) (by omega) (fun q k a => ak_up_out1 a) ak_up_at1 rfl ⟨j2, cc, jl2, t2, K2⟩ (fun Q X q => C31 Q X rfl ⟨fun z => absurd z nt, fun _ => by rw [h3]; exact q⟩) (fun Q X q => by rw [hy]; exact g29 Q X ⟨fun z => absurd z nt, fun _ => q⟩)
end DON3
