/-! the run: an object is changed -/
def ak_gA (g : ak_Gh) (S' : Nat) (T' : Nat → List (Int × Int)) (sh' : Nat → Nat) (E' : Nat → List ak_E) (Et' : List ak_E) (G' : List (Int × Int × Int × Int)) : ak_Gh := ⟨S', g.O, g.B, T', sh', E', Et', G', g.φ, g.hr, g.lv, g.mt, g.Us, g.FR⟩
section ALT2
variable {e : ak_X3} {d ρ1 ρ2 P W y n N T0 o i k A a u us S O B Mt m : Nat} {ρ : List Nat} {c : ak_Cx} {g : ak_Gh} {V : List Nat} {fs : List ak_Fr} {f : ak_Fr} {h h1 h2 hP hc hm hc' hm' hc2 hm2 hcS hmS : ak_S} {j : ak_Jb} {r : List ak_Jb} {us0 : List (Bool × Int × Int)} {v v2 : Bool × Int × Int} {s w s2 w2 nm op x x2 sv wv sv' wv' q7 : Int} {X : Nat → ak_S → Prop} {S' : Nat} {T' : Nat → List (Int × Int)} {sh' : Nat → Nat} {E' : Nat → List ak_E} {Et' : List ak_E} {G' : List (Int × Int × Int × Int)}
theorem ak_SP_alt (sp : ak_SPP c g V hc hm) (wd : ak_WD S' g.O g.B c.Mt T' sh' hc' hm') (st : ak_ST S' g.O (c.z 7) c.us T' sh' E' Et' G' hc' hm') (fc : ak_mfC hc hc') (fm : ak_mfM hm hm') : ak_SPP c (ak_gA g S' T' sh' E' Et' G') V hc' hm' := by
  obtain ⟨⟨hs, tx⟩, ag, ⟨hO, w0⟩, _, rm, jn, al, k1, k2⟩ := sp
  have hT := ak_T_bd hs
  have hwy : ∃ wy, ak_wyS hm' wy := st.2.2.2.2.2.elim (fun wy h => ⟨wy, h.1⟩)
  obtain ⟨c1, c2, _⟩ := fc
  obtain ⟨m1, m2, _⟩ := fm
  exact ⟨⟨hs, tx⟩, ak_agT_fr ag (fun q k a b => ⟨c1 q k (by omega) (by omega) (by omega) (by omega), c2 q k (by omega) (by omega)⟩) (fun q k a => m1 q k (by unfold ak_tmI at a; omega) (by unfold ak_tmI at a; omega) (by unfold ak_tmI at a; omega)), ⟨hO, wd⟩, st,
    ak_RM_fr rm (fun q k a b => ⟨c1 q k (by omega) (by omega) (by omega) (by omega), c2 q k (by omega) (by omega)⟩) (fun q k h => ⟨m1 q k (by omega) (by omega) (by omega), m2 q k (by omega)⟩), ak_jn_fr jn (fun q k a b => ⟨c1 q k (by omega) (by omega) (by omega) (by omega), c2 q k (by omega) (by omega)⟩) (fun q k h => ⟨m1 q k (by omega) (by omega) (by omega), m2 q k (by omega)⟩),
    ak_all_fr al (fun q k h => c1 q k (by omega) (by omega) (by omega) (by omega)) (fun k => c2 5 k (by omega) (by omega)) (fun q k h => m1 q k (by omega) (by omega) (by omega)) hwy, (c1 1 8 (by omega) (by omega) (by omega) (by omega)).trans k1, (m1 110 4 (by omega) (by omega) (by omega)).trans k2.1, (m1 110 0 (by omega) (by omega) (by omega)).trans k2.2⟩
/-- a change, from where both make it -/
theorem ak_dn_alt (w : ak_RN c g (f :: fs) hc hm) (fj : f.js = j :: r) (hk : j.k = 4) (hy : j.n = (y : Int)) (fv : f.vs = us0) (pc9 : f.pc < 9100) (cnt : hm.1 110 109 < 1000000000) (K : ak_K (ak_mC c.s c.h0) (ak_mM c.us c.m0) (ak_T c.s) c.us (g.mt f.r + 40 * g.lv f.r) r (f.pc + 1) [])
    (PO : ∀ q k, ¬ (q = 32 ∧ (k = 10 ∨ k = 12)) → ¬ (q = 72 ∧ k = fs.length) → hP.1 q k = hc.1 q k) (P10 : hP.1 32 10 = (ak_nV fs : Int)) (P12 : hP.1 32 12 = (fs.length : Int)) (P72 : hP.1 72 fs.length = ((f.pc + 1 : Nat) : Int)) (P2 : hP.2 = hc.2) (oO : o < g.O) (hop : 0 ≤ op ∧ op ≤ 4) (hx : op = 3 → 0 ≤ x ∧ x < (g.O : Int)) (h01 : op = 0 ∨ op = 1 → ak_hv g.O g.B c.Mt (op, x) sv wv sv' wv')
    (RC : ∀ (rr : Int) (hc2 : ak_S), (∀ (Q : Int → ak_S → Prop) (X : Nat → ak_S → Prop), Q rr hc2 → ak_MI e 0 (d + 38) (ak_rc c.s ρ1 ρ2) 71 [am_r 32, am_i op, am_i (o : Int), am_i x, am_i sv, am_l wv] hP Q X) → ∀ (Q : ak_S → Prop) (X : Nat → ak_S → Prop), ((rr = 0 → Q hc2) ∧ (rr ≠ 0 → ak_MV e 0 (d + 38) (ak_rc c.s ρ1 ρ2) 77 [am_r 32, am_i rr, am_i 0, am_l 0] hc2 Q (fun _ _ => False))) → ak_MV e 0 (d + 40) (ak_rc c.s ρ1 ρ2) 72 [am_r 32] hc Q X)
    (RM : ∀ (rr : Int) (hm2 : ak_S), (∀ (Q : Int → ak_S → Prop) (X : Nat → ak_S → Prop), Q rr hm2 → ak_MI e 1 (d + 38) ρ 297 [am_r 110, am_i (o : Int), am_i op, am_i x, am_i sv', am_l wv'] (ak_poM hm (ak_nJ fs + 1 + r.length)) Q X) → ∀ (Q : ak_S → Prop) (X : Nat → ak_S → Prop), ((rr ≤ 0 → Q (am_up hm2.1 110 127 (ak_nT fs : Int), hm2.2)) ∧ (0 < rr → ak_MV e 1 (d + 38) ρ 270 [am_r 110, am_i rr] hm2 Q (fun _ _ => False))) → ak_MV e 1 (d + 40) ρ 293 [am_r 110, am_i (y : Int)] (ak_poM hm (ak_nJ fs + 1 + r.length)) Q X) : ak_OUT e d ρ1 ρ2 ρ c (ak_Phi hm (f :: fs)) W hc hm := by
  obtain ⟨hs, l60, fU, f5, φ5, sp0, F, L, J0, V, K0, ⟨l1, l2, l3⟩, ⟨d2, d3, d4, d5, o1, o2⟩, ⟨e1, e2, e3, e4, e5, o3⟩, ⟨x1, x2, x3, x4⟩, d72, lt1⟩ := ak_tp w
  obtain ⟨t1, t2, t3, t4, t5, t6⟩ := ak_tj w fj
  have job : ∀ hm', ak_goV e (d + 40) ρ 293 [am_r 110, am_i j.n] (ak_poM hm (ak_nJ fs + 1 + r.length)) hm' → ak_mgo e (d + 40) ρ hm hm' := fun hm' h => ak_job t1 (by omega) (by omega) t3 t4 (fun z => absurd z (by omega)) (fun z => absurd z (by omega)) (fun z => absurd z (by omega)) (fun _ => h) (by omega)
  have spP : ak_SPP c g (ak_rms (f :: fs)) hP (ak_poM hm (ak_nJ fs + 1 + r.length)) := ak_SP_fr sp0 (fun q k h => ⟨PO q k (by unfold ak_stC at h; omega) (by unfold ak_stC at h; omega), by rw [P2]⟩) (fun q k h => ⟨ak_poM_o (fun z => h.1 ⟨z.1, by omega⟩), rfl⟩)
  obtain ⟨rr, hc2, hm2, S', T', sh', E', Et', G', r078, r2, r3, wd', st', fc, fm, gc, gm⟩ := lk_malter (e := e) (d := d + 30) (ρ2 := ρ) (u := c.s) (r1 := ρ1) (r2 := ρ2) (o := o) (op := op) (x := x) (sv := sv) (wv := wv) (sv' := sv') (wv' := wv') spP.2.2.1.2 spP.2.2.2.1 hs oO hop hx h01
  have spF := ak_SP_alt spP wd' st' fc fm
  have goC := RC rr hc2 (fun Q X q => ak_MI_deep (show d + 35 ≤ d + 38 by omega) (gc Q X q))
  have goM := RM rr hm2 (fun Q X q => gm Q X q)
  obtain ⟨c1, c2, c3⟩ := fc
  obtain ⟨m1, m2, m3⟩ := fm
  have C : ∀ q k, ¬ (q = 32 ∧ (k = 10 ∨ k = 12)) → ¬ (q = 72 ∧ k = fs.length) → ¬ (33 ≤ q ∧ q ≤ 48) → hc2.1 q k = hc.1 q k := fun q k a1 a2 a3 => (c1 q k (by omega) (by omega) (by omega) (by omega)).trans (PO q k a1 a2)
  have CJ : ∀ q k, ¬ (33 ≤ q ∧ q ≤ 48) → hc2.2.1 q k = hc.2.1 q k := fun q k a => (c2 q k (by omega) (by omega)).trans (by rw [P2])
  have C10 : hc2.1 32 10 = (ak_nV fs : Int) := (c1 _ _ (by omega) (by omega) (by omega) (by omega)).trans P10
  have C12 : hc2.1 32 12 = (fs.length : Int) := (c1 _ _ (by omega) (by omega) (by omega) (by omega)).trans P12
  have C72 : hc2.1 72 fs.length = ((f.pc + 1 : Nat) : Int) := (c1 _ _ (by omega) (by omega) (by omega) (by omega)).trans P72
  have C22 : hc2.2.2 = hc.2.2 := c3.trans (by rw [P2])
  have M : ∀ q k, ¬ (q = 110 ∧ (k = 53 ∨ k = 62 ∨ k = 64 ∨ k = 67 ∨ k = 78 ∨ k = 84 ∨ k = 132)) → ¬ (141 ≤ q ∧ q ≤ 172) → hm2.1 q k = hm.1 q k := fun q k a1 a2 => (m1 q k (by omega) (by omega) (by omega)).trans (ak_poM_o (by omega))
  have MJ : ∀ q k, q ≠ 146 → hm2.2.1 q k = hm.2.1 q k := fun q k a => m2 q k a
  have M132 : hm2.1 110 132 = ((ak_nJ fs + 1 + r.length : Nat) : Int) := (m1 _ _ (by omega) (by omega) (by omega)).trans ak_poM_v
  clear c1 c2 m1 m2 wd' st' gc gm RC RM spP
  have hg : ak_gle g (ak_gA g S' T' sh' E' Et' G') (ak_rms (f :: fs)) := ak_gle_refl w
  by_cases hr0 : rr = 0
  · have FO : ∀ q k, ¬ (q = 110 ∧ k = 127) → ((am_up hm2.1 110 127 (ak_nT fs : Int), hm2.2) : ak_S).1 q k = hm2.1 q k := fun q k a => ak_up_out1 a
    have F127 : ((am_up hm2.1 110 127 (ak_nT fs : Int), hm2.2) : ak_S).1 110 127 = (ak_nT fs : Int) := ak_up_at1
    have F2 : ((am_up hm2.1 110 127 (ak_nT fs : Int), hm2.2) : ak_S).2 = hm2.2 := rfl
    have gM : ak_goV e (d + 40) ρ 293 [am_r 110, am_i (y : Int)] (ak_poM hm (ak_nJ fs + 1 + r.length)) (am_up hm2.1 110 127 (ak_nT fs : Int), hm2.2) := fun Q X q => goM Q X ⟨fun _ => q, fun z => absurd z (by omega)⟩
    generalize ((am_up hm2.1 110 127 (ak_nT fs : Int), hm2.2) : ak_S) = hmF at FO F127 F2 gM
    have M' : ∀ q k, ¬ (q = 110 ∧ (k = 53 ∨ k = 62 ∨ k = 64 ∨ k = 67 ∨ k = 78 ∨ k = 84 ∨ k = 127 ∨ k = 132)) → ¬ (141 ≤ q ∧ q ≤ 172) → hmF.1 q k = hm.1 q k := fun q k a b => (FO q k (by omega)).trans (M q k (by omega) b)
    have MJ' : ∀ q k, q ≠ 146 → hmF.2.1 q k = hm.2.1 q k := fun q k a => by rw [F2]; exact MJ q k a
    exact ak_red (g' := ak_gA g S' T' sh' E' Et' G') (u := us0) (l := []) (js := r) (pc' := f.pc + 1) w fj (by omega) pc9 (by rw [fv]; simp) (by omega) (ak_SP_fr spF (fun _ _ _ => ⟨rfl, rfl⟩) (fun q k h => ⟨FO q k (by unfold ak_stM at h; omega), by rw [F2]⟩)) hg ⟨fun q k h => C q k (by omega) (by omega) (by omega), fun q k h => CJ q k (by omega), fun y _ => ⟨C _ _ (by omega) (by omega) (by omega), C _ _ (by omega) (by omega) (by omega), CJ _ _ (by omega)⟩⟩ ⟨fun q k h => M' q k (by omega) (by omega), fun q k h => MJ' q k (by omega)⟩ C72 C10 ((C _ _ (by omega) (by omega) (by omega)).trans o1) ((C _ _ (by omega) (by omega) (by omega)).trans o2) ((M' _ _ (by omega) (by omega)).trans o3) F127 ((FO _ _ (by omega)).trans M132)
      (ak_JS_fr (Nat.le_refl _) (Nat.le_refl _) (fun _ _ => rfl) t6 (fun q k a b _ => ⟨C q k (by omega) (by omega) (by omega), CJ q k (by omega)⟩) (fun q k a b _ => M' q k (by omega) (by omega)) (fun q k a b _ => ⟨M' q k (by omega) (by omega), MJ' q k (by omega)⟩)) ⟨rfl, rfl, rfl⟩ K (by omega) (fun Q X q => goC Q X ⟨fun _ => q, fun z => absurd hr0 z⟩) (job _ (fun Q X q => by rw [hy]; exact gM Q X q)) (by rw [M' _ _ (by omega) (by omega)]; exact Int.le_refl _) (fun q a b => by rw [M' 110 q (by omega) (by omega)]; omega) C22
  · exact ak_OUTf (g' := ak_gA g S' T' sh' E' Et' G') (kd := rr) (s := 0) (x := 0) w fj (by omega) pc9 spF hg ⟨fun q k h => C q k (by omega) (by omega) (by omega), fun q k h => CJ q k (by omega), fun y _ => ⟨C _ _ (by omega) (by omega) (by omega), C _ _ (by omega) (by omega) (by omega), CJ _ _ (by omega)⟩⟩ ⟨fun q k h => M q k (by omega) (by omega), fun q k h => MJ q k (by omega)⟩ ((C _ _ (by omega) (by omega) (by omega)).trans o1) C12 M132 ((M _ _ (by omega) (by omega)).trans o3) ak_vk0 cnt (by rw [M _ _ (by omega) (by omega)]; exact Int.le_refl _) (fun q a b => M 110 q (by omega) (by omega)) C22 (fun hcX h Q X q => goC Q X ⟨fun z => absurd z hr0, fun _ => ak_MV_deep (show d + 30 ≤ d + 38 by omega) (h _ _ q)⟩) (fun hm' h => job _ (fun Q X q => by rw [hy]; exact goM Q X ⟨fun z => absurd z (by omega), fun _ => ak_MV_of (Nat.le_of_ble_eq_true rfl) (am_k270_0 (ak_MV_deep (show d + 25 ≤ d + 37 by omega) (h _ _ q)))⟩))
/-- it isn't an object -/
theorem ak_dn_no (w : ak_RN c g (f :: fs) hc hm) (fj : f.js = j :: r) (hk : j.k = 4) (hy : j.n = (y : Int)) (pc9 : f.pc < 9100) (cnt : hm.1 110 109 < 1000000000)
    (PO : ∀ q k, ¬ (q = 32 ∧ (k = 10 ∨ k = 12)) → ¬ (q = 72 ∧ k = fs.length) → hP.1 q k = hc.1 q k) (P12 : hP.1 32 12 = (fs.length : Int)) (P2 : hP.2 = hc.2)
    (RC : ∀ (Q : ak_S → Prop) (X : Nat → ak_S → Prop), ak_MV e 0 (d + 38) (ak_rc c.s ρ1 ρ2) 77 [am_r 32, am_i 6, am_i 0, am_l 0] hP Q (fun _ _ => False) → ak_MV e 0 (d + 40) (ak_rc c.s ρ1 ρ2) 72 [am_r 32] hc Q X)
    (RM : ∀ (Q : ak_S → Prop) (X : Nat → ak_S → Prop), ak_MV e 1 (d + 38) ρ 270 [am_r 110, am_i 6] (ak_poM hm (ak_nJ fs + 1 + r.length)) Q (fun _ _ => False) → ak_MV e 1 (d + 40) ρ 293 [am_r 110, am_i (y : Int)] (ak_poM hm (ak_nJ fs + 1 + r.length)) Q X) : ak_OUT e d ρ1 ρ2 ρ c (ak_Phi hm (f :: fs)) W hc hm := by
  obtain ⟨hs, l60, fU, f5, φ5, sp0, F, L, J0, V, K0, ⟨l1, l2, l3⟩, ⟨d2, d3, d4, d5, o1, o2⟩, ⟨e1, e2, e3, e4, e5, o3⟩, ⟨x1, x2, x3, x4⟩, d72, lt1⟩ := ak_tp w
  obtain ⟨t1, t2, t3, t4, t5, t6⟩ := ak_tj w fj
  have spP : ak_SPP c g (ak_rms (f :: fs)) hP (ak_poM hm (ak_nJ fs + 1 + r.length)) := ak_SP_fr sp0 (fun q k h => ⟨PO q k (by unfold ak_stC at h; omega) (by unfold ak_stC at h; omega), by rw [P2]⟩) (fun q k h => ⟨ak_poM_o (fun z => h.1 ⟨z.1, by omega⟩), rfl⟩)
  have MO : ∀ q k, ¬ (q = 110 ∧ k = 132) → (ak_poM hm (ak_nJ fs + 1 + r.length)).1 q k = hm.1 q k := fun q k a => ak_poM_o a
  exact ak_OUTf (kd := 6) (s := 0) (x := 0) w fj (by omega) pc9 spP (ak_gle_refl w) ⟨fun q k h => PO q k (by omega) (by omega), fun q k h => by rw [P2], fun y _ => ⟨PO _ _ (by omega) (by omega), PO _ _ (by omega) (by omega), by rw [P2]⟩⟩ ⟨fun q k h => MO q k (by omega), fun q k h => rfl⟩ ((PO _ _ (by omega) (by omega)).trans o1) P12 ak_poM_v ((MO _ _ (by omega)).trans o3) ak_vk0 cnt (by rw [MO _ _ (by omega)]; exact Int.le_refl _) (fun q a b => MO 110 q (by omega)) (by rw [P2]) (fun hcX h Q X q => RC Q X (ak_MV_deep (show d + 30 ≤ d + 38 by omega) (h _ _ q)))
    (fun hm' h => ak_job t1 (by omega) (by omega) t3 t4 (fun z => absurd z (by omega)) (fun z => absurd z (by omega)) (fun z => absurd z (by omega)) (fun _ Q X q => by rw [hy]; exact RM Q X (ak_MV_of (Nat.le_of_ble_eq_true rfl) (am_k270_0 (ak_MV_deep (show d + 25 ≤ d + 37 by omega) (h _ _ q))))) (by omega))
end ALT2
