/-! the run: an ensure, an on takes over -/
section LVT
variable {e : ak_X3} {d ρ1 ρ2 P : Nat} {ρ : List Nat} {c : ak_Cx} {g g' : ak_Gh} {up lo : List ak_Fr} {cur f : ak_Fr} {hmO hc hm hc' hm' hcA : ak_S} {j : ak_Jb} {r js : List ak_Jb} {aw : List Bool}
theorem ak_beC_o {h : ak_S} {n q k : Nat} (a : ¬ (q = 77 ∧ k = 10)) (b : ¬ ((q = 78 ∨ (82 ≤ q ∧ q ≤ 86)) ∧ k = n)) : (ak_beC h n).1 q k = h.1 q k := by
  unfold ak_beC
  exact (ak_up_out1 a).trans ((ak_up_out (by omega)).trans ((ak_up_out (by omega)).trans ((ak_up_out (by omega)).trans ((ak_up_out (by omega)).trans (ak_up_out (by omega))))))
theorem ak_beC_J {h : ak_S} {n q k : Nat} (b : ¬ (q = 85 ∧ k = n)) : (ak_beC h n).2.1 q k = h.2.1 q k := by
  unfold ak_beC
  exact ak_up_out b
theorem ak_beC_v {h : ak_S} {n : Nat} : (ak_beC h n).1 77 10 = 0 ∧ (ak_beC h n).1 78 n = 2 ∧ (ak_beC h n).1 82 n = h.1 77 10 ∧ (ak_beC h n).1 83 n = h.1 77 11 ∧ (ak_beC h n).1 84 n = h.1 77 12 ∧ (ak_beC h n).2.1 85 n = h.2.1 77 13 ∧ (ak_beC h n).1 86 n = h.1 77 14 := by
  unfold ak_beC
  simp [am_up]
theorem ak_gc_cons {k n' : Nat} {a1 a2 a3 : Int} (h : 9 ≤ k) : ak_gc ((⟨k, a1, a2, a3, n'⟩ : ak_Jb) :: r) = ak_gc r + 1 := by
  show ak_gc r + (if 9 ≤ k then 1 else 0) = _
  rw [if_pos h]
theorem ak_ens (w : ak_UI c g up cur (j :: r) lo P hmO hc hm) (hk : j.k = 9 ∨ j.k = 10) {y : Nat} (hy : j.n = (y : Int)) (h35 : ak_mM c.us c.m0 114 y = 35) (hw5 : j.w < 500) (es : ak_ES (ak_mC c.s c.h0) (ak_mM c.us c.m0) (ak_T c.s) c.us (g.mt cur.r + 40 * g.lv cur.r) (ak_K (ak_mC c.s c.h0) (ak_mM c.us c.m0) (ak_T c.s) c.us (g.mt cur.r + 40 * g.lv cur.r) r) r y j.w) :
    ((∀ (Q : ak_S → Prop) (X : Nat → ak_S → Prop), Q (am_up hc.1 77 4 ((ak_nG lo + ak_gc r : Nat) : Int), hc.2) → ak_W0 e 0 (d + 38) 101 (ak_rc c.s ρ1 ρ2) 51 [some (am_r 32), some (am_i ((ak_nG lo + ak_gc r : Nat) : Int)), some (am_i (j.w : Int)), some (am_i (-1))] [] hc (ak_qv Q X)) ∧
      (∀ (d2 : Nat) (Q : Int → ak_S → Prop) (X : Nat → ak_S → Prop), Q 0 (ak_ptM hm (ak_nJ lo + 1 + r.length) (ak_nT lo : Int)) → ak_MI e 1 (d2 + 2) ρ 278 [am_r 110, am_i j.n] (ak_ptM hm (ak_nJ lo + 1 + r.length) (ak_nT lo : Int)) Q X) ∧ ak_UI c g up cur r lo P hmO (am_up hc.1 77 4 ((ak_nG lo + ak_gc r : Nat) : Int), hc.2) (ak_ptM hm (ak_nJ lo + 1 + r.length) (ak_nT lo : Int))) ∨
    ∃ hc' hm' : ak_S, (∀ (Q : ak_S → Prop) (X : Nat → ak_S → Prop), Q hc' → ak_W0 e 0 (d + 38) 101 (ak_rc c.s ρ1 ρ2) 51 [some (am_r 32), some (am_i ((ak_nG lo + ak_gc r : Nat) : Int)), some (am_i (j.w : Int)), some (am_i (-1))] [] hc (ak_qv Q X)) ∧
      (∀ (d2 : Nat) (Q : Int → ak_S → Prop) (X : Nat → ak_S → Prop), Q 1 hm' → ak_MI e 1 (d2 + 2) ρ 278 [am_r 110, am_i j.n] (ak_ptM hm (ak_nJ lo + 1 + r.length) (ak_nT lo : Int)) Q X) ∧ hc'.2.2 = hc.2.2 ∧ ∃ g' fs', ak_RN c g' fs' hc' hm' ∧ fs' ≠ [] ∧ ak_pcs fs' + 1 ≤ P ∧ ak_sm hm hm' := by
  obtain ⟨hs, l60, cU, φ5, φy, h174, h174O, inU, nc, h12, e133⟩ := ak_UI_at w
  obtain ⟨t1, t2, t3, t4, t5, t6, t7, _⟩ := ak_m276 (x1 := 0) w
  obtain ⟨c4, cG, _⟩ := ak_c100g (e := e) (d := d) (ρ1 := ρ1) (ρ2 := ρ2) w (by omega)
  have wU := w
  obtain ⟨⟨sp, nd, rw', h7, h8, hl⟩, ⟨u2, u3, u4, u5⟩, ⟨m1, m2, m3, m4, m5⟩, ⟨s1, s2, s3⟩, ⟨f0, jS, ⟨pc, sh, K⟩, jl, jg⟩, lo1, pb⟩ := w
  have jl2 : r.length + 1 ≤ 6165 := by rw [List.length_cons] at jl; exact jl
  obtain ⟨r78, r79, r80⟩ := (jS.2.1 (by omega)).1
  have r81 := (jS.2.1 (by omega)).2.1
  obtain ⟨y18, yq⟩ := ak_nde (q0 := 114) sp (by omega) (by rw [h35]; decide)
  have B := fun q k a => ak_ptM_o (h := hm) (n := ak_nJ lo + 1 + r.length) (t := (ak_nT lo : Int)) (q := q) (k := k) a
  obtain ⟨B132, B127⟩ := ak_ptM_v (h := hm) (n := ak_nJ lo + 1 + r.length) (t := (ak_nT lo : Int))
  have BJ : (ak_ptM hm (ak_nJ lo + 1 + r.length) (ak_nT lo : Int)).2 = hm.2 := rfl
  generalize ak_ptM hm (ak_nJ lo + 1 + r.length) (ak_nT lo : Int) = hmB at B B132 B127 BJ
  have ekc : ak_kc (j :: r) = ak_kc r := by
    show ak_kc r + (if j.k = 11 then 1 else 0) = _
    rw [if_neg (by omega)]; rfl
  have egc : ak_gc (j :: r) = ak_gc r + 1 := by
    show ak_gc r + (if 9 ≤ j.k then 1 else 0) = _
    rw [if_pos (by omega)]
  have egw : ak_gw r + 1 ≤ ak_gw (j :: r) := by
    show ak_gw r + 1 ≤ ak_gw r + (if j.k = 9 then 2 else if j.k = 10 then 1 else 0)
    rcases hk with z | z
    · rw [if_pos z]; omega
    · rw [if_neg (by omega), if_pos z]; omega
  rw [ekc] at m3
  have B139 : hmB.1 110 139 = ((ak_nK lo + ak_kc r : Nat) : Int) := (B _ _ (by omega)).trans m3
  have hK := ak_nK_le (fs := lo)
  have hkc := ak_kc_le (l := r)
  have yO : ∀ q, 114 ≤ q → q ≤ 120 → hmB.1 q y = ak_mM c.us c.m0 q y := fun q a b => (B q y (by omega)).trans ((s1 q y (by unfold ak_stM; omega) (fun z => absurd z.1 (by omega))).trans (yq q a b))
  have nb : 0 ≤ ((ak_nG lo + ak_gc r : Nat) : Int) ∧ ((ak_nG lo + ak_gc r : Nat) : Int) < 1260 := by omega
  have wb : 0 ≤ (j.w : Int) ∧ (j.w : Int) < 500 := by omega
  have e5 : hc.1 (ak_T c.s + 5) j.w = ak_mC c.s c.h0 (ak_T c.s + 5) j.w := ak_cx sp (by omega)
  rcases es with ⟨cc, es1, es2, es3, es4⟩ | ⟨es1, c2, c3, G, i, es2, es3, es4, es5, es6, es7⟩
  · -- dropped
    refine Or.inl ⟨fun Q X q => am_k101_51 hs ⟨fun _ => ⟨nb, ?_⟩, fun z => absurd z (by decide)⟩, fun d2 Q X q => ?_, ak_lv_drop wU (by omega) B139 B132 (fun q k a => B q k (by omega)) BJ⟩
    · rw [ak_natn, ak_natn, r78, e5, es2]
      exact ⟨fun z => absurd z (by omega), fun _ => ⟨wb, fun _ => q, fun z => absurd z (by decide)⟩⟩
    · rw [hy]
      exact am_s278 (x := hmB.1 117 y) y18 B139 (by omega) B132 (by omega) B127 rfl (fun z => absurd ((yO 118 (by omega) (by omega)).symm.trans z) es1) (fun _ => q)
  · -- the ensure begins
    have AO := fun q k a b => ak_beC_o (h := hc) (n := ak_nG lo + ak_gc r) (q := q) (k := k) a b
    have AJ := fun q k b => ak_beC_J (h := hc) (n := ak_nG lo + ak_gc r) (q := q) (k := k) b
    obtain ⟨v0, v1, v2, v3, v4, v5, v6⟩ := ak_beC_v (h := hc) (n := ak_nG lo + ak_gc r)
    have g55 : ∀ (Q : ak_S → Prop) (X : Nat → ak_S → Prop), Q (ak_beC hc (ak_nG lo + ak_gc r)) → ak_MV e 0 (d + 38) (ak_rc c.s ρ1 ρ2) 55 [am_r 77] hc Q X := fun Q X q => am_s55 (d := d + 37) c4 cG q
    have A2 : (ak_beC hc (ak_nG lo + ak_gc r)).2.2 = hc.2.2 := rfl
    generalize ak_beC hc (ak_nG lo + ak_gc r) = hcA at AO AJ v0 v1 v2 v3 v4 v5 v6 g55 A2
    have spA : ak_SPP c g (ak_rms (up ++ cur :: lo)) hcA hmO := ak_SP_fr sp (fun q k h => ⟨AO q k (by unfold ak_stC at h; omega) (by unfold ak_stC at h; omega), AJ q k (by unfold ak_stC at h; omega)⟩) (fun _ _ _ => ⟨rfl, rfl⟩)
    obtain ⟨g', hc1, b1, b2, b3, b4, b5, gl, ⟨eO, eB, eφ⟩, b6⟩ := ak_back (e := e) (d := d) (ρ1 := ρ1) (ρ2 := ρ2) (ord := c2) spA nd (fun p f q h => by rw [AO _ _ (by omega) (by omega), AO _ _ (by omega) (by omega)]; exact rw' p f q h) ((AO _ _ (by omega) (by omega)).trans h7) (by
      rw [AO _ _ (by omega) (by omega), h8]; exact (ak_nH_fr (fun k _ => AO 76 k (by omega) (by omega))).symm) hl ((AO _ _ (by omega) (by omega)).trans f0.1.2.2.2.2.1)
    have spB := b6 hmB (fun q k h h2 => (B q k (fun z => h.1 ⟨z.1, by omega⟩)).trans (s1 q k h h2)) (fun q k h => by rw [BJ]; exact s2 q k h) (fun y hy => by rw [B _ _ (by omega), B _ _ (by omega)]; exact s3 y hy)
    -- the states
    have HO : ∀ q k, ¬ (q = 32 ∧ k = 10) → ¬ (q = 72 ∧ k = lo.length) → ((am_up (am_up hc1.1 72 lo.length (c2 : Int)) 32 10 (ak_nV lo : Int), hc1.2) : ak_S).1 q k = hc1.1 q k := fun q k a b => (ak_up_out1 a).trans (ak_up_out b)
    have H10 : ((am_up (am_up hc1.1 72 lo.length (c2 : Int)) 32 10 (ak_nV lo : Int), hc1.2) : ak_S).1 32 10 = (ak_nV lo : Int) := ak_up_at1
    have H72 : ((am_up (am_up hc1.1 72 lo.length (c2 : Int)) 32 10 (ak_nV lo : Int), hc1.2) : ak_S).1 72 lo.length = (c2 : Int) := (ak_up_out1 (by omega)).trans ak_up_at
    have HJ : ((am_up (am_up hc1.1 72 lo.length (c2 : Int)) 32 10 (ak_nV lo : Int), hc1.2) : ak_S).2 = hcA.2 := b5
    generalize ((am_up (am_up hc1.1 72 lo.length (c2 : Int)) 32 10 (ak_nV lo : Int), hc1.2) : ak_S) = hcF at b1 HO H10 H72 HJ
    have CF : ∀ q k, ¬ (q = 32 ∧ k = 10) → ¬ (q = 72 ∧ k = lo.length) → ¬ (q = 69 ∧ (k = 7 ∨ k = 8)) → ¬ (q = 54 ∧ k ∈ ak_rms up) → q ≠ 60 → ¬ (q = 49 ∧ k = 11) → hcF.1 q k = hcA.1 q k := fun q k a b c' d' e' f' => (HO q k a b).trans (b4 q k c' d' e' f')
    have CFc : ∀ q k, ¬ (q = 32 ∧ k = 10) → ¬ (q = 72 ∧ k = lo.length) → ¬ (q = 69 ∧ (k = 7 ∨ k = 8)) → ¬ (q = 54 ∧ k ∈ ak_rms up) → q ≠ 60 → ¬ (q = 49 ∧ k = 11) → ¬ (q = 77 ∧ k = 10) → ¬ ((q = 78 ∨ (82 ≤ q ∧ q ≤ 86)) ∧ k = ak_nG lo + ak_gc r) → hcF.1 q k = hc.1 q k := fun q k a b c' d' e' f' g' h' => (CF q k a b c' d' e' f').trans (AO q k g' h')
    have MO := fun q i a b b2 => ak_esM_o (h := hmB) (n := ak_nJ lo + 1 + r.length) (k := ak_nK lo + ak_kc r) (y := (y : Int)) (x := ak_mM c.us c.m0 117 y) (t := (ak_nT lo : Int)) (q := q) (i := i) a b b2
    have MJ := fun q i b => ak_esM_J (h := hmB) (n := ak_nJ lo + 1 + r.length) (k := ak_nK lo + ak_kc r) (y := (y : Int)) (x := ak_mM c.us c.m0 117 y) (t := (ak_nT lo : Int)) (q := q) (i := i) b
    obtain ⟨⟨o1, o2⟩, ⟨o3, o4, o5, o6⟩, ⟨o7, o8, o9, oa⟩, ⟨ob, oc, od, oe, og, oh⟩⟩ := ak_esM_v (h := hmB) (n := ak_nJ lo + 1 + r.length) (k := ak_nK lo + ak_kc r) (y := (y : Int)) (x := ak_mM c.us c.m0 117 y) (t := (ak_nT lo : Int))
    have goM : ∀ (d2 : Nat) (Q : Int → ak_S → Prop) (X : Nat → ak_S → Prop), Q 1 (ak_esM hmB (ak_nJ lo + 1 + r.length) (ak_nK lo + ak_kc r) (y : Int) (ak_mM c.us c.m0 117 y) (ak_nT lo : Int)) → ak_MI e 1 (d2 + 2) ρ 278 [am_r 110, am_i j.n] hmB Q X := fun d2 Q X q => by
      rw [hy]
      exact am_s278 y18 B139 (by omega) B132 (by omega) B127 (yO 117 (by omega) (by omega)) (fun _ => q) (fun z => absurd ((yO 118 (by omega) (by omega)).trans es1) z)
    have M22 : (ak_esM hmB (ak_nJ lo + 1 + r.length) (ak_nK lo + ak_kc r) (y : Int) (ak_mM c.us c.m0 117 y) (ak_nT lo : Int)).2.2 = hmB.2.2 := rfl
    generalize ak_esM hmB (ak_nJ lo + 1 + r.length) (ak_nK lo + ak_kc r) (y : Int) (ak_mM c.us c.m0 117 y) (ak_nT lo : Int) = hmF at MO MJ o1 o2 o3 o4 o5 o6 o7 o8 o9 oa ob oc od oe og oh goM M22
    have MF : ∀ q i, ¬ (q = 110 ∧ (i = 127 ∨ i = 132 ∨ i = 139)) → ¬ (201 ≤ q ∧ q ≤ 204 ∧ (i = ak_nJ lo + 1 + r.length ∨ i = ak_nJ lo + 1 + r.length + 1)) → ¬ (205 ≤ q ∧ q ≤ 210 ∧ i = ak_nK lo + ak_kc r) → hmF.1 q i = hm.1 q i := fun q i a b b2 => (MO q i (by omega) b b2).trans (B q i (by omega))
    have hr54 : ∀ y, y ∈ ak_rms (cur :: lo) → y ∉ ak_rms up := fun y hy h => by
      have e1' : ak_rms (up ++ cur :: lo) = ak_rms up ++ ak_rms (cur :: lo) := by simp [ak_rms]
      rw [e1'] at nd
      exact (List.nodup_append.mp nd).2.2 y h y hy rfl
    have hl2 : (⟨11, (y : Int), 0, (ak_nT lo : Int), j.w⟩ : ak_Jb) :: r = (⟨11, (y : Int), 0, (ak_nT lo : Int), j.w⟩ : ak_Jb) :: r := rfl
    refine Or.inr ⟨hcF, hmF, fun Q X q => am_k101_51 hs ⟨fun _ => ⟨nb, ?_⟩, fun z => absurd z (by decide)⟩, goM, by rw [HJ, A2], g', ⟨cur.r, c2, ⟨2, ak_mM c.us c.m0 117 y, 0, 0, 0⟩ :: ⟨11, (y : Int), 0, (ak_nT lo : Int), j.w⟩ :: r, []⟩ :: lo,
      ak_tk f0 lo1 l60 (ak_SP_fr spB (fun q k h => ⟨HO q k (by unfold ak_stC at h; omega) (by unfold ak_stC at h; omega), by rw [HJ, b5]⟩) (fun q k h => ⟨MO q k (fun z => h.1 ⟨z.1, by omega⟩) (by unfold ak_stM at h; omega) (by unfold ak_stM at h; omega), MJ q k (by unfold ak_stM at h; omega)⟩)) gl (fun q k h => CFc q k (by omega) (by omega) (by omega) (by omega) (by omega) (by omega) (by omega) (by omega)) (fun q k h => by rw [HJ]; exact AJ q k (by omega))
        (fun y hy => ⟨CFc 54 y (by omega) (by omega) (by omega) (fun z => hr54 y hy z.2) (by omega) (by omega) (by omega) (by omega), CFc 56 _ (by omega) (by omega) (by omega) (by omega) (by omega) (by omega) (by omega) (by omega), by rw [HJ]; exact AJ 57 _ (by omega)⟩)
        (fun q k h => MF q k (by omega) (by omega) (by omega)) (fun q k h => (MJ q k (by omega)).trans (by rw [BJ])) H72 ((HO _ _ (by omega) (by omega)).trans b2) ?_ ?_ H10 ?_ ?_ ?_ ?_ ?_ ?_ ?_ ?_ ?_ ?_ ⟨?_, ?_⟩, by simp, ?_, fun q hq => MF _ _ (by omega) (by omega) (by omega)⟩
    · rw [ak_natn, ak_natn, r78, e5, es2]
      refine ⟨fun z => absurd z (by omega), fun _ => ⟨wb, fun z => absurd z (by omega), fun _ => g55 _ _ ⟨nb, wb, ?_⟩⟩⟩
      rw [AO 80 _ (by omega) (by omega), r80, AO (ak_T c.s + 5) _ (by unfold ak_T; omega) (by unfold ak_T; omega), e5, es2]
      exact b1 _ _ q
    · rw [HO _ _ (by omega) (by omega), b3]; exact ak_nH_fr (fun k _ => AO 76 k (by omega) (by omega))
    · rw [CFc 77 4 (by omega) (by omega) (by omega) (by omega) (by omega) (by omega) (by omega) (by omega), c4]; rfl
    · rw [CFc 32 11 (by omega) (by omega) (by omega) (by omega) (by omega) (by omega) (by omega) (by omega)]; exact u3
    · rw [CF 77 10 (by omega) (by omega) (by omega) (by omega) (by omega) (by omega)]; exact v0
    · rw [MF _ _ (by omega) (by omega) (by omega)]; exact m1
    · rw [MF _ _ (by omega) (by omega) (by omega)]; exact m5
    · rw [MO _ _ (by omega) (by omega) (by omega)]; exact B127
    · rw [o1, List.length_cons, List.length_cons]; congr 1
    · rw [o2]; rfl
    · rw [MF _ _ (by omega) (by omega) (by omega)]; exact m4
    · have hG : hcF.1 78 (ak_nG lo + ak_gc r) = 2 := (CF _ _ (by omega) (by omega) (by omega) (by omega) (by omega) (by omega)).trans v1
      refine ⟨⟨o7, o8, o9, oa⟩, fun h => absurd h (by show ¬ (9 ≤ 2); omega), fun h => absurd h (by show ¬ (2 = 11); omega), ⟨o3, o4, o5, o6⟩, fun _ => ⟨⟨hG, ?_, ?_⟩, fun h => absurd h (by show ¬ (11 = 10); omega), rfl⟩, fun _ => ?_, ak_JS_fr gl.1 gl.2.1 (fun y hy => by rw [eφ]) jS.2.2.2 (fun q k a b h => ⟨CFc q k (by omega) (by omega) (by omega) (by omega) (by omega) (by omega) (by omega) (by omega), by rw [HJ]; exact AJ q k (by omega)⟩) (fun q k a b h => MF q k (by omega) (by omega) (by omega)) (fun q k a b h => ⟨MF q k (by omega) (by omega) (by omega), (MJ q k (by omega)).trans (by rw [BJ])⟩)⟩
      · exact (CFc 79 _ (by omega) (by omega) (by omega) (by omega) (by omega) (by omega) (by omega) (by omega)).trans r79
      · exact (CFc 80 _ (by omega) (by omega) (by omega) (by omega) (by omega) (by omega) (by omega) (by omega)).trans r80
      · rw [CF 82 _ (by omega) (by omega) (by omega) (by omega) (by omega) (by omega), v2, CF 83 _ (by omega) (by omega) (by omega) (by omega) (by omega) (by omega), v3, CF 84 _ (by omega) (by omega) (by omega) (by omega) (by omega) (by omega), v4, HJ, v5, CF 86 _ (by omega) (by omega) (by omega) (by omega) (by omega) (by omega), v6, ob, oc, od, oe, og, oh,
          B 110 133 (by omega), B 110 134 (by omega), B 110 135 (by omega), B 110 137 (by omega), B 110 138 (by omega), BJ]
        exact ak_wyr_mono u5 gl.1 gl.2.1 (fun y _ => by rw [eφ])
    · refine ak_K_mk ⟨rfl, c3, i, G, ?_, ?_, es5, ak_K_mk ⟨rfl, es6, es7⟩⟩
      · rw [List.length_cons]; omega
      · rw [ak_gc_cons (by omega)]; omega
    · rw [List.length_cons, List.length_cons]
      have : r.length + 1 + 1 ≤ 6165 := by
        have := (ak_T3_open es5).1
        omega
      exact this
    · show ak_gc ((⟨11, (y : Int), 0, (ak_nT lo : Int), j.w⟩ : ak_Jb) :: r) + 0 ≤ 21
      rw [ak_gc_cons (by omega)]; omega
    · show ak_pcs lo + (9100 - c2) + 9101 * (ak_gw r + 0 + 0) + 1 ≤ P
      omega
end LVT
