/-! the run: all of leaving -/
section LVA
variable {e : ak_X3} {d ρ1 ρ2 P : Nat} {ρ : List Nat} {c : ak_Cx} {g g' : ak_Gh} {up lo : List ak_Fr} {cur f : ak_Fr} {hmO hc hm hc' hm' hcA : ak_S} {j : ak_Jb} {r js : List ak_Jb} {aw : List Bool}
theorem ak_lv_guard (w : ak_UI c g up cur (j :: r) lo P hmO hc hm) (hk : 9 ≤ j.k) (ih : ∀ hc1 hm1, ak_UI c g up cur r lo P hmO hc1 hm1 → ak_sm hm hm1 → ak_LR e d ρ1 ρ2 ρ c P hc1 hm1) : ak_LR e d ρ1 ρ2 ρ c P hc hm := by
  obtain ⟨hs, l60, cU, φ5, φy, h174, h174O, inU, nc, h12, e133⟩ := ak_UI_at w
  obtain ⟨t1, t2, t3, t4, t5, t6, t7, _⟩ := ak_m276 (x1 := 0) w
  obtain ⟨c4, cG, c100⟩ := ak_c100g (e := e) (d := d) (ρ1 := ρ1) (ρ2 := ρ2) w hk
  have wU := w
  obtain ⟨⟨sp, nd, rw', h7, h8, hl⟩, ⟨u2, u3, u4, u5⟩, ⟨m1, m2, m3, m4, m5⟩, ⟨s1, s2, s3⟩, ⟨f0, jS, ⟨pc, sh, K⟩, jl, jg⟩, lo1, pb⟩ := w
  have jb := (jS.2.1 hk).2.2
  obtain ⟨r78, r79, r80⟩ := (jS.2.1 hk).1
  have kd := ak_K_kind K
  have lt1 := (sp.2.2.2.2.1.2.1 cur.r cU).2.2.2.2.2.1.2.2
  have nb : 0 ≤ ((ak_nG lo + ak_gc r : Nat) : Int) ∧ ((ak_nG lo + ak_gc r : Nat) : Int) < 1260 := by omega
  have fin : ∀ (hcX : ak_S) (x : Int) (Q : ak_S → Prop) (X : Nat → ak_S → Prop), hcX.1 77 10 = 0 → Q hcX → ak_W0 e 0 (d + 39) 100 (ak_rc c.s ρ1 ρ2) 2 [some (am_r 32), some (am_i x), none] [] hcX (ak_qv Q X) := fun hcX x Q X h0 q => am_k100_2 hs ⟨fun _ => q, fun _ => ⟨fun _ => q, fun z => absurd h0 z⟩⟩
  -- what the other's next job is
  have goB : ∀ (k : Nat) (jM : Nat), j.k = k → (k = 9 ∧ jM = 277 ∨ k = 10 ∧ jM = 278) → ∀ (Q : ak_S → Prop) (X : Nat → ak_S → Prop), ak_MI e 1 (d + 20) ρ jM [am_r 110, am_i j.n] (ak_ptM hm (ak_nJ lo + 1 + r.length) (ak_nT lo : Int)) (fun v h3 => (v ≠ 0 → Q h3) ∧ (v = 0 → ak_W0 e 1 (d + 20) 276 ρ 2 [some (am_r 110), some (am_i 1), none] [] h3 (ak_qv Q X))) (fun _ _ => False) → ak_W0 e 1 (d + 20) 276 ρ 2 [some (am_r 110), some (am_i 1), none] [] hm (ak_qv Q X) := by
    intro k jM ek hh Q X q
    have q' := ak_MI_imp q (Q' := fun v h3 => (v ≠ 0 → ak_W0 e 1 (d + 20) 276 ρ 2 [some (am_r 110), some (am_i 0), none] [] h3 (ak_qv Q X)) ∧ (v = 0 → ak_W0 e 1 (d + 20) 276 ρ 2 [some (am_r 110), some (am_i 1), none] [] h3 (ak_qv Q X))) (X' := fun _ _ => False) (fun v h3 ⟨a, b⟩ => ⟨fun z => am_k276_2 ⟨fun _ => am_k276_225 ⟨fun _ => a z, fun z => absurd rfl z⟩, fun z => absurd rfl z⟩, b⟩) (fun _ _ z => z)
    unfold ak_ptM at q'
    refine am_k276_2 ?_
    rw [t1, show am_w32 (((ak_nJ lo + 1 + r.length + 1 : Nat) : Int) - 1) = ((ak_nJ lo + 1 + r.length : Nat) : Int) from by rw [ak_w _ (by omega)]; omega, ak_natn, t3, t4, t6, jb]
    have hb : 0 ≤ ((ak_nJ lo + 1 + r.length : Nat) : Int) ∧ ((ak_nJ lo + 1 + r.length : Nat) : Int) < 370000 := by omega
    rcases hh with ⟨rfl, rfl⟩ | ⟨rfl, rfl⟩
    · exact ⟨fun z => absurd z (by decide), fun _ => ⟨fun z => absurd z (by omega), fun _ => ⟨hb, hb, trivial, fun z => absurd z (by omega), fun z => absurd z (by omega), fun _ => ⟨hb, q'⟩, fun z => absurd z (by omega), fun z => absurd z (by omega), trivial⟩⟩⟩
    · exact ⟨fun z => absurd z (by decide), fun _ => ⟨fun z => absurd z (by omega), fun _ => ⟨hb, hb, trivial, fun z => absurd z (by omega), fun z => absurd z (by omega), fun z => absurd z (by omega), fun _ => ⟨hb, q'⟩, fun z => absurd z (by omega), trivial⟩⟩⟩
  -- the two outcomes
  have dropR : ∀ hc1 hm1 : ak_S, ak_UI c g up cur r lo P hmO hc1 hm1 → hc1.1 77 4 = ((ak_nG lo + ak_gc r : Nat) : Int) → ak_sm hm hm1 → hc1.2.2 = hc.2.2 → (∀ (Q : ak_S → Prop) (X : Nat → ak_S → Prop), Q hc1 → ak_MV e 0 (d + 39) (ak_rc c.s ρ1 ρ2) 101 [am_r 32, am_i ((ak_nG lo + ak_gc r : Nat) : Int)] hc Q X) → (∀ (Q : ak_S → Prop) (X : Nat → ak_S → Prop), ak_W0 e 1 (d + 20) 276 ρ 2 [some (am_r 110), some (am_i 1), none] [] hm1 (ak_qv Q X) → ak_W0 e 1 (d + 20) 276 ρ 2 [some (am_r 110), some (am_i 1), none] [] hm (ak_qv Q X)) → ak_LR e d ρ1 ρ2 ρ c P hc hm := by
    intro hc1 hm1 U k4 k104 k22 gC gM
    obtain ⟨hc', hm', g1, g2, g3, g4⟩ := ih hc1 hm1 U k104
    refine ⟨hc', hm', fun x Q X hx q => c100 x Q X hx (gC _ _ (g1 (x + 1) Q X (by rw [k4]; rw [c4] at hx; omega) q)), fun Q X q => gM Q X (g2 Q X q), g3.trans k22, ?_⟩
    rcases g4 with ⟨g', fs', h1, h2, h3, h4⟩ | h
    · exact Or.inl ⟨g', fs', h1, h2, h3, fun q hq => (h4 q hq).trans (k104 q hq)⟩
    · exact Or.inr h
  have takeR : ∀ hc1 hm1 : ak_S, (∃ g' fs', ak_RN c g' fs' hc1 hm1 ∧ fs' ≠ [] ∧ ak_pcs fs' + 1 ≤ P ∧ ak_sm hm hm1) → hc1.2.2 = hc.2.2 → (∀ (Q : ak_S → Prop) (X : Nat → ak_S → Prop), Q hc1 → ak_MV e 0 (d + 39) (ak_rc c.s ρ1 ρ2) 101 [am_r 32, am_i ((ak_nG lo + ak_gc r : Nat) : Int)] hc Q X) → (∀ (Q : ak_S → Prop) (X : Nat → ak_S → Prop), Q hm1 → ak_W0 e 1 (d + 20) 276 ρ 2 [some (am_r 110), some (am_i 1), none] [] hm (ak_qv Q X)) → ak_LR e d ρ1 ρ2 ρ c P hc hm := by
    intro hc1 hm1 R k22 gC gM
    refine ⟨hc1, hm1, fun x Q X hx q => c100 x Q X hx (gC _ _ (fin hc1 _ Q X ?_ q)), gM, k22, Or.inl R⟩
    obtain ⟨g', fs', h1, _⟩ := R
    exact h1.2.2.2.1
  have pt104 : ak_sm hm (ak_ptM hm (ak_nJ lo + 1 + r.length) (ak_nT lo : Int)) := fun q hq => ak_ptM_o (by omega)
  obtain ⟨_, a, _, K⟩ := K
  rcases (show j.k = 9 ∨ j.k = 10 ∨ j.k = 11 by omega) with k9 | k10 | k11
  · -- a body
    unfold ak_K0 at K
    rw [k9] at K
    obtain ⟨_, y, hy, h35, hw5, k37, kw, ⟨i0, c2, G, i, e4, hG, hI, tt⟩, es⟩ := K
    have wb : 0 ≤ (j.w : Int) ∧ (j.w : Int) < 500 := by omega
    have h78 : hc.1 78 (ak_nG lo + ak_gc r) = 0 := by rw [r78]; omega
    -- neither an on: the ensure, or nothing
    have none' : (∀ (Q : ak_S → Prop) (X : Nat → ak_S → Prop), ak_W0 e 0 (d + 38) 101 (ak_rc c.s ρ1 ρ2) 51 [some (am_r 32), some (am_i ((ak_nG lo + ak_gc r : Nat) : Int)), some (am_i (j.w : Int)), some (am_i (-1))] [] hc (ak_qv Q X) → ak_MV e 0 (d + 39) (ak_rc c.s ρ1 ρ2) 101 [am_r 32, am_i ((ak_nG lo + ak_gc r : Nat) : Int)] hc Q X) →
        (∀ (Q : Int → ak_S → Prop) (X : Nat → ak_S → Prop), ak_MI e 1 (d + 19) ρ 278 [am_r 110, am_i j.n] (ak_ptM hm (ak_nJ lo + 1 + r.length) (ak_nT lo : Int)) (fun v2 h1 => (v2 = 0 ∨ v2 = 1) ∧ Q v2 h1) (fun _ _ => False) → ak_MI e 1 (d + 20) ρ 277 [am_r 110, am_i j.n] (ak_ptM hm (ak_nJ lo + 1 + r.length) (ak_nT lo : Int)) Q X) → ak_LR e d ρ1 ρ2 ρ c P hc hm := by
      intro gC gM
      rcases ak_ens (e := e) (d := d) (ρ1 := ρ1) (ρ2 := ρ2) (ρ := ρ) wU (Or.inl k9) hy h35 hw5 es with ⟨q1, q2, q3⟩ | ⟨hc', hm', q1, q2, q3, q4⟩
      · exact dropR _ _ q3 ak_up_at1 pt104 rfl (fun Q X q => gC Q X (q1 Q X q)) (fun Q X q => goB 9 277 k9 (Or.inl ⟨rfl, rfl⟩) Q X (gM _ _ (q2 (d + 17) _ _ ⟨Or.inl rfl, fun z => absurd rfl z, fun _ => q⟩)))
      · exact takeR hc' hm' q4 q3 (fun Q X q => gC Q X (q1 Q X q)) (fun Q X q => goB 9 277 k9 (Or.inl ⟨rfl, rfl⟩) Q X (gM _ _ (q2 (d + 17) _ _ ⟨Or.inr rfl, fun _ => q, fun z => absurd z (by decide)⟩)))
    rcases h12 with g1 | g2
    · -- failing: is there an on
      obtain ⟨y18, yq⟩ := ak_nde (q0 := 114) sp (by omega) (by rw [h35]; decide)
      have yO : (ak_ptM hm (ak_nJ lo + 1 + r.length) (ak_nT lo : Int)).1 116 y = ak_mM c.us c.m0 116 y := (ak_ptM_o (by omega)).trans ((s1 116 y (by unfold ak_stM; omega) (fun z => absurd z.1 (by omega))).trans (yq 116 (by omega) (by omega)))
      have f137 : hc.1 77 11 = hm.1 110 137 := by
        rcases u5.2 with z | z | z
        · exact absurd z u4
        · exact z.2.1
        · rw [g1] at z; exact absurd z.1 (by decide)
      obtain ⟨z1, z2, z3, z4, z5, z6, z7, _⟩ := ak_tx_z sp.1.2
      have gC0 : ∀ (Q : ak_S → Prop) (X : Nat → ak_S → Prop), ak_W0 e 0 (d + 37) 7 (ak_rc c.s ρ1 ρ2) 7 [some (am_r (ak_T c.s + 1)), some (am_i (j.w : Int)), some (am_i (hc.1 77 11)), some (am_i (i0 : Int))] [] hc (ak_qi (fun v2 h1 => ak_W0 e 0 (d + 38) 101 (ak_rc c.s ρ1 ρ2) 51 [some (am_r 32), some (am_i ((ak_nG lo + ak_gc r : Nat) : Int)), some (am_i (j.w : Int)), some (am_i v2)] [] h1 (ak_qv Q X)) (fun _ _ => False)) → ak_MV e 0 (d + 39) (ak_rc c.s ρ1 ρ2) 101 [am_r 32, am_i ((ak_nG lo + ak_gc r : Nat) : Int)] hc Q X := by
        intro Q X q
        refine ak_MV_of (Nat.le_of_ble_eq_true rfl) (am_k101_0 hs ⟨nb, nb, fun z => absurd h78 (by rw [ak_natn] at z; exact z), fun _ => ⟨fun z => absurd g1 z, fun _ => ?_⟩⟩)
        rw [ak_natn, r79]
        refine ak_MI_of (Nat.le_of_ble_eq_true rfl) (am_k7_0 hs ⟨wb, ?_⟩)
        rw [ak_natn, show hc.1 (ak_T c.s + 4) j.w = (i0 : Int) from (ak_cx sp (by omega)).trans e4]
        exact q
      have gM0 : ∀ (Q : Int → ak_S → Prop) (X : Nat → ak_S → Prop), ak_W0 e 1 (d + 19) 277 ρ 15 [some (am_r 110), some (am_i j.n), some (am_i (ak_mM c.us c.m0 116 y))] [] (ak_ptM hm (ak_nJ lo + 1 + r.length) (ak_nT lo : Int)) (ak_qi Q X) → ak_MI e 1 (d + 20) ρ 277 [am_r 110, am_i j.n] (ak_ptM hm (ak_nJ lo + 1 + r.length) (ak_nT lo : Int)) Q X := by
        intro Q X q
        refine ak_MI_of (Nat.le_of_ble_eq_true rfl) (am_k277_0 ⟨fun z => absurd ?_ z, fun _ => ⟨by omega, ?_⟩⟩)
        · rw [ak_ptM_o (by omega), e133]; exact g1
        · rw [hy, ak_natn, yO, ← hy]
          exact q
      have tt' := tt
      rcases ak_onfor (e := e) (d := d + 37) (d2 := d + 19) (ρ := ak_rc c.s ρ1 ρ2) (ρ' := ρ) (hm := ak_ptM hm (ak_nJ lo + 1 + r.length) (ak_nT lo : Int)) (n0 := j.n) (kd := hc.1 77 11) sp (fun q k a b => (ak_ptM_o (by omega)).trans (s1 q k (by unfold ak_stM; omega) (fun z => absurd z.1 (by omega)))) ((ak_ptM_o (by omega)).trans f137.symm) (c.z 4) i0 _ _ _ _ (by omega) tt with ⟨i1, y2, a', c1, o1, o2, o3, o4, o5, o6, o7, o8, o9, o10, o11, o12⟩ | ⟨o1, o2⟩
      · rw [show (g.mt cur.r + 40 * g.lv cur.r + 1000 * G + 32000 * i) % 32000 = g.mt cur.r + 40 * g.lv cur.r + 1000 * G by omega, show (g.mt cur.r + 40 * g.lv cur.r + 1000 * G + 32000 * i) / 32000 = i by omega] at o10
        obtain ⟨hc', hm', q1, q2, q3, q4⟩ := ak_on (e := e) (d := d) (ρ1 := ρ1) (ρ2 := ρ2) (ρ := ρ) wU k9 hy h35 hw5 g1 es o3 o4 o5 o6 o7 o8 o9 o10 o11 o12 hG hI
        exact takeR hc' hm' q4 q3 (fun Q X q => gC0 Q X (o1 _ _ (q1 Q X q))) (fun Q X q => goB 9 277 k9 (Or.inl ⟨rfl, rfl⟩) Q X (gM0 _ _ (o2 _ _ (q2 (d + 17) _ _ ⟨fun _ => q, fun z => absurd z (by decide)⟩))))
      · exact none' (fun Q X q => gC0 Q X (o1 _ _ q)) (fun Q X q => gM0 Q X (o2 Q X q))
    · -- an end
      refine none' (fun Q X q => ak_MV_of (Nat.le_of_ble_eq_true rfl) (am_k101_0 hs ⟨nb, nb, fun z => absurd h78 (by rw [ak_natn] at z; exact z), fun _ => ⟨fun _ => ?_, fun z => absurd (g2.symm.trans z) (by decide)⟩⟩)) (fun Q X q => ak_MI_of (Nat.le_of_ble_eq_true rfl) (am_k277_0 ⟨fun _ => q, fun z => absurd z ?_⟩))
      · rw [ak_natn, r79]; exact q
      · rw [ak_ptM_o (by omega), e133, g2]; decide
  · -- an on
    unfold ak_K0 at K
    rw [k10] at K
    obtain ⟨_, y, hy, h35, hw5, k37, kw, es⟩ := K
    have gC : ∀ (Q : ak_S → Prop) (X : Nat → ak_S → Prop), ak_W0 e 0 (d + 38) 101 (ak_rc c.s ρ1 ρ2) 51 [some (am_r 32), some (am_i ((ak_nG lo + ak_gc r : Nat) : Int)), some (am_i (j.w : Int)), some (am_i (-1))] [] hc (ak_qv Q X) → ak_MV e 0 (d + 39) (ak_rc c.s ρ1 ρ2) 101 [am_r 32, am_i ((ak_nG lo + ak_gc r : Nat) : Int)] hc Q X := by
      intro Q X q
      refine ak_MV_of (Nat.le_of_ble_eq_true rfl) (am_k101_0 hs ⟨nb, nb, fun _ => ?_, fun z => absurd z (by rw [ak_natn, r78, k10]; decide)⟩)
      rw [ak_natn, r79]; exact q
    rcases ak_ens (e := e) (d := d) (ρ1 := ρ1) (ρ2 := ρ2) (ρ := ρ) wU (Or.inr k10) hy h35 hw5 es with ⟨q1, q2, q3⟩ | ⟨hc', hm', q1, q2, q3, q4⟩
    · exact dropR _ _ q3 ak_up_at1 pt104 rfl (fun Q X q => gC Q X (q1 Q X q)) (fun Q X q => goB 10 278 k10 (Or.inr ⟨rfl, rfl⟩) Q X (q2 (d + 18) _ _ ⟨fun z => absurd rfl z, fun _ => q⟩))
    · exact takeR hc' hm' q4 q3 (fun Q X q => gC Q X (q1 Q X q)) (fun Q X q => goB 10 278 k10 (Or.inr ⟨rfl, rfl⟩) Q X (q2 (d + 18) _ _ ⟨fun _ => q, fun z => absurd z (by decide)⟩))
  · -- an ensure
    have ekc : ak_kc (j :: r) = ak_kc r + 1 := by
      show ak_kc r + (if j.k = 11 then 1 else 0) = _
      rw [if_pos k11]
    rw [ekc] at m3
    have hK := ak_nK_le (fs := lo)
    have hkc := ak_kc_le (l := r)
    have MO : ∀ q k, ¬ (q = 110 ∧ (k = 127 ∨ k = 132 ∨ k = 139)) → ((am_up (am_up (am_up hm.1 110 132 ((ak_nJ lo + 1 + r.length : Nat) : Int)) 110 139 ((ak_nK lo + ak_kc r : Nat) : Int)) 110 127 (ak_nT lo : Int), hm.2) : ak_S).1 q k = hm.1 q k := fun q k a => (ak_up_out1 (by omega)).trans ((ak_up_out (by omega)).trans (ak_up_out (by omega)))
    refine dropR _ (am_up (am_up (am_up hm.1 110 132 ((ak_nJ lo + 1 + r.length : Nat) : Int)) 110 139 ((ak_nK lo + ak_kc r : Nat) : Int)) 110 127 (ak_nT lo : Int), hm.2) (ak_lv_drop wU hk (by simp [am_up]) (by simp [am_up]) MO rfl) ak_up_at1 (fun q hq => MO _ _ (by omega)) rfl (fun Q X q => ?_) (fun Q X q => ?_)
    · refine ak_MV_of (Nat.le_of_ble_eq_true rfl) (am_k101_0 hs ⟨nb, nb, fun _ => am_k101_51 hs ⟨fun _ => ⟨nb, fun _ => q, fun z => absurd ?_ z⟩, fun z => absurd z (by decide)⟩, fun z => absurd z (by rw [ak_natn, r78, k11]; decide)⟩)
      rw [ak_natn, r78, k11]; decide
    · refine am_k276_2 ?_
      rw [t1, show am_w32 (((ak_nJ lo + 1 + r.length + 1 : Nat) : Int) - 1) = ((ak_nJ lo + 1 + r.length : Nat) : Int) from by rw [ak_w _ (by omega)]; omega, ak_natn, t3, t6, jb, m3, show am_w32 (((ak_nK lo + (ak_kc r + 1) : Nat) : Int) - 1) = ((ak_nK lo + ak_kc r : Nat) : Int) from by rw [ak_w _ (by omega)]; omega]
      have hb : 0 ≤ ((ak_nJ lo + 1 + r.length : Nat) : Int) ∧ ((ak_nJ lo + 1 + r.length : Nat) : Int) < 370000 := by omega
      exact ⟨fun z => absurd z (by decide), fun _ => ⟨fun z => absurd z (by omega), fun _ => ⟨hb, hb, trivial, fun z => absurd z (by omega), fun z => absurd z (by omega), fun z => absurd z (by omega), fun z => absurd z (by omega), fun _ => ⟨hb, q⟩, trivial⟩⟩⟩
/-- all of leaving -/
theorem ak_LV : ∀ (N : Nat) (up : List ak_Fr) (cur : ak_Fr) (js : List ak_Jb) (lo : List ak_Fr) (hc hm : ak_S), ak_nJ lo + js.length ≤ N → ak_UI c g up cur js lo P hmO hc hm → ak_LR e d ρ1 ρ2 ρ c P hc hm := by
  intro N
  induction N with
  | zero =>
    intro up cur js lo hc hm hN w
    cases js with
    | cons j r => rw [List.length_cons] at hN; omega
    | nil =>
      cases lo with
      | cons f lo =>
        have : ak_nJ (f :: lo) = ak_nJ lo + 1 + f.js.length := rfl
        omega
      | nil =>
        by_cases hx : hm.1 110 133 = 2 ∧ hm.1 110 134 = (g.φ cur.r : Int)
        · exact ak_lv_exit w hx
        · have wa := ak_UI_at w
          refine ak_lv_fend w ?_
          rcases wa.2.2.2.2.2.2.2.2.2.1 with h | h
          · exact h
          · exfalso
            rcases w.2.1.2.2.2.2 with z | z | ⟨_, _, _, _, p, r', q, z5, z6, z7⟩
            · rw [h] at z; exact absurd z (by decide)
            · rw [h] at z; exact absurd z.1 (by decide)
            · have : r' = cur.r := by
                cases p with
                | nil => exact (List.cons.inj z5).1.symm
                | cons a p =>
                  have h2 := (List.cons.inj z5).2
                  cases p <;> cases h2
              exact hx ⟨wa.2.2.2.2.2.2.2.2.2.2.trans h, by rw [z7, this]⟩
  | succ N ih =>
    intro up cur js lo hc hm hN w
    cases js with
    | cons j r =>
      rw [List.length_cons] at hN
      obtain ⟨_, _, _, _, ⟨_, _, ⟨pc, sh, K⟩, _⟩, _⟩ := id w
      have kd := ak_K_kind K
      by_cases h9 : 9 ≤ j.k
      · exact ak_lv_guard w h9 (fun hc1 hm1 U _ => ih up cur r lo hc1 hm1 (by omega) U)
      · exact ak_lv_skip w (by omega) (fun hm1 U _ => ih up cur r lo hc hm1 (by omega) U)
    | nil =>
      by_cases hx : hm.1 110 133 = 2 ∧ hm.1 110 134 = (g.φ cur.r : Int)
      · exact ak_lv_exit w hx
      · cases lo with
        | cons f lo =>
          have : ak_nJ (f :: lo) = ak_nJ lo + 1 + f.js.length := rfl
          exact ak_lv_pass w hx (fun hm1 U _ => ih _ f f.js lo hc hm1 (by rw [List.length_nil] at hN; omega) U)
        | nil =>
          have wa := ak_UI_at w
          refine ak_lv_fend w ?_
          rcases wa.2.2.2.2.2.2.2.2.2.1 with h | h
          · exact h
          · exfalso
            rcases w.2.1.2.2.2.2 with z | z | ⟨_, _, _, _, p, r', q, z5, z6, z7⟩
            · rw [h] at z; exact absurd z (by decide)
            · rw [h] at z; exact absurd z.1 (by decide)
            · have : r' = cur.r := by
                cases p with
                | nil => exact (List.cons.inj z5).1.symm
                | cons a p =>
                  have h2 := (List.cons.inj z5).2
                  cases p <;> cases h2
              exact hx ⟨wa.2.2.2.2.2.2.2.2.2.2.trans h, by rw [z7, this]⟩
end LVA
