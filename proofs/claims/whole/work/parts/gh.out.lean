/-! the run: what a step comes to; a failure; an end -/
def ak_wtop : List ak_Fr → Nat
  | [] => 0
  | f :: _ => ak_wgt f.js
def ak_OUT (e : ak_X3) (d ρ1 ρ2 : Nat) (ρ : List Nat) (c : ak_Cx) (P W : Nat) (hc hm : ak_S) : Prop :=
  (∃ (n : Nat) (g' : ak_Gh) (fs' : List ak_Fr) (hc' hm' : ak_S), ak_RN c g' fs' hc' hm' ∧ fs' ≠ [] ∧ ak_turns e (d + 40) c.s ρ1 ρ2 n hc hc' ∧ ak_mgo e (d + 40) ρ hm hm' ∧ ak_Phi hm' fs' + n ≤ P ∧ (n = 0 → ak_wtop fs' < W) ∧ hc'.2.2 = hc.2.2 ∧ ∀ q, 109 ≤ q → q ≤ 111 → hm'.1 110 q ≤ hm.1 110 q + n) ∨
  ∃ (n : Nat) (hcE hmE : ak_S) (o : Int), ak_FN e d ρ1 ρ2 ρ c o hcE hmE ∧ n ≤ P ∧ ak_turns e (d + 40) c.s ρ1 ρ2 n hc hcE ∧ ak_mgo e (d + 40) ρ hm hmE ∧ hcE.2.2 = hc.2.2
section OUT
variable {e : ak_X3} {d ρ1 ρ2 P W : Nat} {ρ : List Nat} {c : ak_Cx} {g g' : ak_Gh} {fs : List ak_Fr} {f : ak_Fr} {hc hm hc' hm' hcS hmS : ak_S} {j : ak_Jb} {r js : List ak_Jb} {aw : List Bool} {s x kd : Int}
theorem ak_lst_js {O B : Nat} {φ : Nat → Nat} {rs : List Nat} {F J Gp Kp Tp : Nat} : ∀ {l : List ak_Jb}, ak_JS O B φ rs F J Gp Kp Tp hc hm l → ak_lst (hc.1 78) (hc.1 81) 1 Gp = ak_lst (hm.1 201) (hm.1 203) 10 J → ak_lst (hc.1 78) (hc.1 81) 1 (Gp + ak_gc l) = ak_lst (hm.1 201) (hm.1 203) 10 (J + l.length) := by
  intro l
  induction l with
  | nil => intro _ h; exact h
  | cons j r ih =>
    intro w h
    obtain ⟨⟨w1, _, w3, _⟩, w2, _, w4⟩ := w
    have i := ih w4 h
    rw [List.length_cons, show J + (r.length + 1) = (J + r.length) + 1 from rfl]
    show ak_lst (hc.1 78) (hc.1 81) 1 (Gp + (ak_gc r + (if 9 ≤ j.k then 1 else 0))) = (if hm.1 201 (J + r.length) = 10 then hm.1 203 (J + r.length) else ak_lst (hm.1 201) (hm.1 203) 10 (J + r.length))
    rw [w1, w3]
    by_cases h9 : 9 ≤ j.k
    · rw [if_pos h9, show Gp + (ak_gc r + 1) = (Gp + ak_gc r) + 1 from rfl]
      show (if hc.1 78 (Gp + ak_gc r) = 1 then hc.1 81 (Gp + ak_gc r) else ak_lst (hc.1 78) (hc.1 81) 1 (Gp + ak_gc r)) = _
      rw [(w2 h9).1.1]
      by_cases h10 : j.k = 10
      · rw [if_pos (by omega), if_pos (by omega)]; exact (w2 h9).2.1 h10
      · rw [if_neg (by omega), if_neg (by omega)]; exact i
    · rw [if_neg h9, if_neg (by omega)]; exact i
theorem ak_lst_lo : ∀ {fs : List ak_Fr} {aw : List Bool}, ak_LO c g hc hm aw fs → ak_lst (hc.1 78) (hc.1 81) 1 (ak_nG fs) = ak_lst (hm.1 201) (hm.1 203) 10 (ak_nJ fs) := by
  intro fs
  induction fs with
  | nil => intro _ _; rfl
  | cons f fs ih =>
    intro aw w
    have i := ih w.2
    refine ak_lst_js (l := f.js) w.1.2.2.1 (i.trans ?_)
    show _ = (if hm.1 201 (ak_nJ fs) = 10 then hm.1 203 (ak_nJ fs) else ak_lst (hm.1 201) (hm.1 203) 10 (ak_nJ fs))
    rw [w.1.2.1.1, if_neg (by decide)]
theorem ak_frM_o {h : ak_S} {n m f' q k : Nat} (a : ¬ (193 ≤ q ∧ q ≤ 198)) : (ak_frM h n m f' kd s x).1 q k = h.1 q k := by
  unfold ak_frM
  split
  · exact (ak_up_out1 (by omega)).trans ((ak_up_out (by omega)).trans ((ak_up_out (by omega)).trans ((ak_up_out (by omega)).trans (ak_up_out (by omega)))))
  · rfl
theorem ak_flM_o {h : ak_S} {n m f' q k : Nat} (a : ¬ (193 ≤ q ∧ q ≤ 198 ∧ k = n)) (b : ¬ (q = 110 ∧ (k = 109 ∨ (133 ≤ k ∧ k ≤ 138)))) : (ak_flM h n m f' kd s x).1 q k = h.1 q k := by
  unfold ak_flM
  refine (ak_up_out1 (by omega)).trans ((ak_up_out (by omega)).trans ((ak_up_out (by omega)).trans ((ak_up_out (by omega)).trans ((ak_up_out (by omega)).trans ?_))))
  unfold ak_frM
  split
  · exact (ak_up_out1 (by omega)).trans ((ak_up_out (by omega)).trans ((ak_up_out (by omega)).trans ((ak_up_out (by omega)).trans (ak_up_out (by omega)))))
  · rfl
theorem ak_flM_J {h : ak_S} {n m f' q k : Nat} (a : ¬ (q = 195 ∧ k = n)) (b : ¬ (q = 110 ∧ k = 136)) : (ak_flM h n m f' kd s x).2.1 q k = h.2.1 q k := by
  unfold ak_flM
  refine (ak_up_out b).trans ?_
  unfold ak_frM
  split
  · exact ak_up_out a
  · rfl
theorem ak_flM_v {h : ak_S} {n m f' : Nat} : ((ak_flM h n m f' kd s x).1 110 109 = ((n + 1 : Nat) : Int) ∧ (ak_flM h n m f' kd s x).1 110 133 = 1 ∧ (ak_flM h n m f' kd s x).1 110 137 = kd ∧ (ak_flM h n m f' kd s x).1 110 138 = (n : Int) ∧ (ak_flM h n m f' kd s x).1 110 135 = s ∧ (ak_flM h n m f' kd s x).2.1 110 136 = x) ∧
    (n < 64 → (ak_flM h n m f' kd s x).1 193 n = kd ∧ (ak_flM h n m f' kd s x).1 194 n = s ∧ (ak_flM h n m f' kd s x).2.1 195 n = x ∧ (ak_flM h n m f' kd s x).1 196 n = h.1 179 f' ∧ (ak_flM h n m f' kd s x).1 197 n = h.1 183 f' ∧ (ak_flM h n m f' kd s x).1 198 n = ak_lst (h.1 201) (h.1 203) 10 m) := by
  refine ⟨by unfold ak_flM; simp [am_up], fun g => ?_⟩
  unfold ak_flM ak_frM
  rw [if_pos g]
  simp [am_up]
theorem ak_nfl_J {h : ak_S} {n q i : Nat} {mt p cc : Int} (a : ¬ (q = 64 ∧ i = 4)) (b : q ≠ 67) : (ak_nfl h n kd s x mt p cc).2.1 q i = h.2.1 q i := by
  unfold ak_nfl
  refine (ak_up_out a).trans ?_
  split
  · exact (ak_up_out (by omega)).trans ((ak_up_out (by omega)).trans ((ak_up_out (by omega)).trans ((ak_up_out (by omega)).trans ((ak_up_out (by omega)).trans (ak_up_out (by omega))))))
  · rfl
theorem ak_flC_o {h : ak_S} {n m t q i : Nat} (a : ¬ (q = 77 ∧ (10 ≤ i ∧ i ≤ 14))) : (ak_flC h n m t kd s x).1 q i = h.1 q i := by
  unfold ak_flC ak_goS
  exact (ak_up_out1 (by omega)).trans ((ak_up_out (by omega)).trans ((ak_up_out (by omega)).trans (ak_up_out (by omega))))
theorem ak_flC_J {h : ak_S} {n m t q i : Nat} (a : ¬ (q = 64 ∧ i = 4)) (b : q ≠ 67) (b2 : q ≠ 77) : (ak_flC h n m t kd s x).2.1 q i = h.2.1 q i := by
  unfold ak_flC ak_goS
  exact (ak_up_out (by omega)).trans (ak_nfl_J a b)
theorem ak_flC_v {h : ak_S} {n m t : Nat} : (ak_flC h n m t kd s x).1 77 10 = 1 ∧ (ak_flC h n m t kd s x).1 77 11 = kd ∧ (ak_flC h n m t kd s x).1 77 12 = s ∧ (ak_flC h n m t kd s x).2.1 77 13 = x ∧ (ak_flC h n m t kd s x).1 77 14 = (n : Int) := by
  unfold ak_flC ak_goS
  simp [am_up]
/-- a failure, from where the one calls fail and the other fails -/
theorem ak_fail (hs : c.s = 0 ∨ c.s = 1) (pc9 : f.pc < 9100) (sp : ak_SPP c g (ak_rms (f :: fs)) hcS hmS) (F : ak_F0 g hcS hmS fs f.r) (L : ak_LO c g hcS hmS [true] fs) (l60 : fs.length + 1 ≤ 60) (c7 : hcS.1 69 7 = ((f :: fs).length : Int)) (c8 : hcS.1 69 8 = ak_nH hcS (f :: fs)) (c4 : hcS.1 77 4 = ((ak_nG fs + ak_gc js : Nat) : Int)) (c11 : hcS.1 32 11 = -1) (c12 : hcS.1 32 12 = (fs.length : Int))
    (m102 : hmS.1 110 102 = (g.φ f.r : Int)) (m103 : hmS.1 110 103 = ((fs.length + 1 : Nat) : Int)) (m132 : hmS.1 110 132 = ((ak_nJ fs + 1 + js.length : Nat) : Int)) (m139 : hmS.1 110 139 = ((ak_nK fs + ak_kc js : Nat) : Int)) (m105 : hmS.1 110 105 = -1)
    (J : ak_JS g.O g.B g.φ (f.r :: ak_rms fs) fs.length (ak_nJ fs + 1) (ak_nG fs) (ak_nK fs) (ak_nT fs) hcS hmS js) (K : ∃ pc sh, ak_K (ak_mC c.s c.h0) (ak_mM c.us c.m0) (ak_T c.s) c.us (g.mt f.r + 40 * g.lv f.r) js pc sh) (jl : js.length ≤ 6165) (jg : ak_gc js ≤ 21) (gw : ak_gw js ≤ ak_gw f.js) (vk : ak_vok g.O g.B s x) (cnt : hmS.1 110 109 < 1000000000) :
    ∃ hcX hc' hm' : ak_S, ak_cgo e (d + 30) c.s ρ1 ρ2 77 [am_r 32, am_i kd, am_i s, am_l x] hcS hcX ∧ hcX.1 77 10 ≠ 0 ∧ ak_cgo e (d + 40) c.s ρ1 ρ2 100 [am_r 32] hcX hc' ∧ ak_goV e (d + 25) ρ 269 [am_r 110, am_i kd, am_i s, am_l x] hmS hm' ∧ hc'.2.2 = hcS.2.2 ∧
      ((∃ g' fs', ak_RN c g' fs' hc' hm' ∧ fs' ≠ [] ∧ ak_pcs fs' + 1 ≤ ak_pcs (f :: fs) ∧ hm'.1 110 104 = hmS.1 110 104 ∧ ∀ q, 109 ≤ q → q ≤ 111 → hm'.1 110 q ≤ hmS.1 110 q + 1) ∨ ∃ o, ak_FN e d ρ1 ρ2 ρ c o hc' hm') := by
  have jn := sp.2.2.2.2.2.1
  obtain ⟨n, en⟩ : ∃ n : Nat, hmS.1 110 109 = (n : Int) := ⟨(hmS.1 110 109).toNat, by have := jn.2.1.2.1; omega⟩
  have enC : hcS.2.1 64 4 = (n : Int) := jn.1.2.2.2.2.1.trans en
  have hG := ak_nG_le L
  have hJ := ak_nJ_le L
  have fU := F.1.1
  have φ5 := sp.2.2.2.2.1.1.2.2.2.2.1 _ fU
  have rM := sp.2.2.2.2.1.2.1 _ fU
  have cz : ak_lst (hcS.1 78) (hcS.1 81) 1 (ak_nG fs + ak_gc js) = ak_lst (hmS.1 201) (hmS.1 203) 10 (ak_nJ fs + 1 + js.length) := by
    refine ak_lst_js J ((ak_lst_lo L).trans ?_)
    show _ = (if hmS.1 201 (ak_nJ fs) = 10 then hmS.1 203 (ak_nJ fs) else ak_lst (hmS.1 201) (hmS.1 203) 10 (ak_nJ fs))
    rw [F.2.1, if_neg (by decide)]
  have goC : ak_cgo e (d + 30) c.s ρ1 ρ2 77 [am_r 32, am_i kd, am_i s, am_l x] hcS (ak_flC hcS n (ak_nG fs + ak_gc js) fs.length kd s x) := fun Q X q => am_s77 (d := d + 28) hs c12 (by omega) c4 (by omega) enC (by omega) q
  have goM : ∀ hm', (∀ (Q : ak_S → Prop) (X : Nat → ak_S → Prop), Q hm' → ak_W0 e 1 (d + 20) 276 ρ 2 [some (am_r 110), some (am_i 1), none] [] (ak_flM hmS n (ak_nJ fs + 1 + js.length) (g.φ f.r) kd s x) (ak_qv Q X)) → ak_goV e (d + 25) ρ 269 [am_r 110, am_i kd, am_i s, am_l x] hmS hm' := fun hm' h Q X q =>
    am_s269 (d := d + 23) en (by omega) m102 φ5 m132 (by omega) (ak_MV_deep (show d + 21 ≤ d + 24 by omega) (ak_MV_of (Nat.le_of_ble_eq_true rfl) (am_k276_0 (h Q _ q))))
  -- the states
  have CO := fun q i a => ak_flC_o (h := hcS) (n := n) (m := ak_nG fs + ak_gc js) (t := fs.length) (kd := kd) (s := s) (x := x) (q := q) (i := i) a
  have CJ := fun q i a b b2 => ak_flC_J (h := hcS) (n := n) (m := ak_nG fs + ak_gc js) (t := fs.length) (kd := kd) (s := s) (x := x) (q := q) (i := i) a b b2
  obtain ⟨v1, v2, v3, v4, v5⟩ := ak_flC_v (h := hcS) (n := n) (m := ak_nG fs + ak_gc js) (t := fs.length) (kd := kd) (s := s) (x := x)
  have MO := fun q i a b => ak_flM_o (h := hmS) (n := n) (m := ak_nJ fs + 1 + js.length) (f' := g.φ f.r) (kd := kd) (s := s) (x := x) (q := q) (k := i) a b
  have MJ := fun q i a b => ak_flM_J (h := hmS) (n := n) (m := ak_nJ fs + 1 + js.length) (f' := g.φ f.r) (kd := kd) (s := s) (x := x) (q := q) (k := i) a b
  obtain ⟨⟨w1, w2, w3, w4, w5, w6⟩, w7⟩ := ak_flM_v (h := hmS) (n := n) (m := ak_nJ fs + 1 + js.length) (f' := g.φ f.r) (kd := kd) (s := s) (x := x)
  have e71 : hcS.1 71 fs.length = hmS.1 179 (g.φ f.r) := F.1.2.2.1.trans rM.2.2.2.2.2.1.1.symm
  have e73 : hcS.1 73 fs.length = hmS.1 183 (g.φ f.r) := F.1.2.2.2.1
  have jnX : ak_jn (ak_nfl hcS n kd s x (hcS.1 71 fs.length) (hcS.1 73 fs.length) (ak_lst (hcS.1 78) (hcS.1 81) 1 (ak_nG fs + ak_gc js))) (ak_flM hmS n (ak_nJ fs + 1 + js.length) (g.φ f.r) kd s x) := by
    refine ak_jn_f jn en (by omega) w1 (fun h => ?_) (fun q k a b => ⟨MO q k (by omega) (by omega), MJ q k (by omega) (by omega)⟩)
    obtain ⟨x1, x2, x3, x4, x5, x6⟩ := w7 h
    exact ⟨x1, x2, x3, x4.trans e71.symm, x5.trans e73.symm, x6.trans cz.symm⟩
  have spX : ak_SPP c g (ak_rms (f :: fs)) (ak_flC hcS n (ak_nG fs + ak_gc js) fs.length kd s x) (ak_flM hmS n (ak_nJ fs + 1 + js.length) (g.φ f.r) kd s x) := by
    refine ak_SP_re sp (ak_jn_fr jnX (fun q k a b => ⟨?_, ?_⟩) (fun _ _ _ => ⟨rfl, rfl⟩)) (fun q k a b => ⟨CO q k (by unfold ak_stC at a; omega), CJ q k (by omega) (by omega) (by unfold ak_stC at a; omega)⟩) (fun q k a b c' => ⟨MO q k (by omega) (fun z => a.1 ⟨z.1, by omega⟩), MJ q k (by omega) (fun z => a.1 ⟨z.1, by omega⟩)⟩)
    · exact (CO q k (by omega)).trans rfl
    · unfold ak_flC ak_goS
      exact ak_up_out (by omega)
  have X22 : (ak_flC hcS n (ak_nG fs + ak_gc js) fs.length kd s x).2.2 = hcS.2.2 := rfl
  generalize ak_flC hcS n (ak_nG fs + ak_gc js) fs.length kd s x = hcX at goC CO CJ v1 v2 v3 v4 v5 spX X22
  generalize ak_flM hmS n (ak_nJ fs + 1 + js.length) (g.φ f.r) kd s x = hmX at goM MO MJ w1 w2 w3 w4 w5 w6 spX
  obtain ⟨row1, row2, row3, row4⟩ := ak_LO_row L
  have nH : ak_nH hcX (f :: fs) = ak_nH hcS (f :: fs) := ak_nH_fr (fun k _ => CO 76 k (by omega))
  have UI : ak_UI c g [] f js fs (ak_pcs (f :: fs)) hmX hcX hmX := by
    refine ⟨⟨spX, ?_, fun p z q h => ?_, (CO _ _ (by omega)).trans c7, ?_, by rw [List.nil_append, List.length_cons]; exact l60⟩, ⟨(CO _ _ (by omega)).trans c4, (CO _ _ (by omega)).trans c11, by rw [v1]; decide, v1.trans w2.symm, Or.inr (Or.inl ⟨v1, v2.trans w3.symm, v3.trans w5.symm, v4.trans w6.symm, v5.trans w4.symm, by rw [v3, v4]; exact vk⟩)⟩,
      ⟨(MO _ _ (by omega) (by omega)).trans m102, (MO _ _ (by omega) (by omega)).trans m132, (MO _ _ (by omega) (by omega)).trans m139, (MO _ _ (by omega) (by omega)).trans m105, (MO _ _ (by omega) (by omega)).trans m103⟩, ⟨fun _ _ _ _ => rfl, fun _ _ _ => rfl, fun y hy => by cases hy⟩,
      ⟨ak_F0_fr F (fun _ _ => rfl) fU rfl (fun q a b _ _ => CO q _ (by omega)) (by rw [CO _ _ (by omega), MO _ _ (by omega) (by omega)]; exact e73) (CO _ _ (by omega)) (MO _ _ (by omega) (by omega)) (fun q a b => MO q _ (by omega) (by omega)),
        ak_JS_fr (Nat.le_refl _) (Nat.le_refl _) (fun _ _ => rfl) J (fun q k a b _ => ⟨CO q k (by omega), CJ q k (by omega) (by omega) (by omega)⟩) (fun q k a b _ => MO q k (by omega) (by omega)) (fun q k a b _ => ⟨MO q k (by omega) (by omega), MJ q k (by omega) (by omega)⟩), K, jl, jg⟩,
      ak_LO_kp ⟨Nat.le_refl _, Nat.le_refl _, fun y hy => ⟨(row3 y hy).1, rfl, rfl, rfl, rfl⟩⟩ L (fun q k h => CO q k (by omega)) (fun q k h => CJ q k (by omega) (by omega) (by omega)) (fun y hy => ⟨CO _ _ (by omega), CO _ _ (by omega), CJ _ _ (by omega) (by omega) (by omega)⟩) (fun q k h => MO q k (by omega) (by omega)) (fun q k h => MJ q k (by omega) (by omega)), ?_⟩
    · refine List.nodup_cons.mpr ⟨fun h => ?_, row4⟩
      have h1 := row3 f.r h
      have h2 := F.1.2.2.2.2.2.2.2.2
      omega
    · rw [CO _ _ (by omega), CO _ _ (by omega)]
      cases p with
      | nil =>
        rw [List.nil_append, List.nil_append] at h
        obtain ⟨rfl, rfl⟩ := List.cons.inj h
        exact ⟨F.1.2.1, F.1.2.2.2.2.2.2.2.1, fU⟩
      | cons p0 p =>
        have h2 := (List.cons.inj h).2
        have := row1 p z q h2
        exact ⟨this.1, this.2.1, this.2.2.1⟩
    · rw [CO _ _ (by omega), c8]
      exact nH.symm
    · show ak_pcs fs + 9101 * ak_gw js + 1 ≤ ak_pcs fs + (9100 - f.pc) + 9101 * ak_gw f.js
      have := Nat.mul_le_mul_left 9101 gw
      omega
  obtain ⟨hc', hm', g1, g2, g3, g4⟩ := ak_LV (e := e) (d := d) (ρ1 := ρ1) (ρ2 := ρ2) (ρ := ρ) _ [] f js fs hcX hmX (Nat.le_refl _) UI
  refine ⟨hcX, hc', hm', goC, by rw [v1]; decide, fun Q X q => ak_MV_of (Nat.le_of_ble_eq_true rfl) (am_k100_0 hs (g1 0 Q X ?_ q)), goM hm' (fun Q X q => g2 Q X q), g3.trans X22, ?_⟩
  · rw [CO _ _ (by omega), c4]; omega
  · rcases g4 with ⟨g', fs', h1, h2, h3, h4⟩ | h
    · refine Or.inl ⟨g', fs', h1, h2, h3, (h4 104 (Or.inl rfl)).trans (MO _ _ (by omega) (by omega)), fun q a b => ?_⟩
      rw [h4 q (Or.inr ⟨a, b⟩)]
      by_cases hq : q = 109
      · rw [hq, w1, en]; omega
      · rw [MO _ _ (by omega) (by omega)]; omega
    · exact Or.inr h
end OUT
