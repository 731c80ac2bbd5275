/-! the run: an on takes over; all of leaving -/
section LVO
variable {e : ak_X3} {d ρ1 ρ2 P : Nat} {ρ : List Nat} {c : ak_Cx} {g g' : ak_Gh} {up lo : List ak_Fr} {cur f : ak_Fr} {hmO hc hm hc' hm' hcA : ak_S} {j : ak_Jb} {r js : List ak_Jb} {aw : List Bool}
/-- the states when an on begins -/
def ak_onM (h : ak_S) (n k : Nat) (y nu t s x x2 : Int) : ak_S := ak_jbM (ak_kwM (ak_jbM h n 10 y nu t) k s x) (n + 1) 2 x2 0 0
theorem ak_onM_o {h : ak_S} {n k q i : Nat} {y nu t s x x2 : Int} (a : ¬ (q = 110 ∧ i = 132)) (b : ¬ (201 ≤ q ∧ q ≤ 204 ∧ (i = n ∨ i = n + 1))) : (ak_onM h n k y nu t s x x2).1 q i = (ak_kwM h k s x).1 q i := by
  unfold ak_onM
  rw [ak_jb_out (by omega) (by omega)]
  unfold ak_kwM
  exact ak_up_cg (ak_jb_out (by omega) (by omega))
theorem ak_onM_J {h : ak_S} {n k : Nat} {y nu t s x x2 : Int} : (ak_onM h n k y nu t s x x2).2 = (ak_kwM h k s x).2 := rfl
theorem ak_onM_v {h : ak_S} {n k : Nat} {y nu t s x x2 : Int} : (ak_onM h n k y nu t s x x2).1 110 132 = ((n + 1 + 1 : Nat) : Int) ∧
    ((ak_onM h n k y nu t s x x2).1 201 n = 10 ∧ (ak_onM h n k y nu t s x x2).1 202 n = y ∧ (ak_onM h n k y nu t s x x2).1 203 n = nu ∧ (ak_onM h n k y nu t s x x2).1 204 n = t) ∧ ((ak_onM h n k y nu t s x x2).1 201 (n + 1) = 2 ∧ (ak_onM h n k y nu t s x x2).1 202 (n + 1) = x2 ∧ (ak_onM h n k y nu t s x x2).1 203 (n + 1) = 0 ∧ (ak_onM h n k y nu t s x x2).1 204 (n + 1) = 0) := by
  unfold ak_onM ak_kwM ak_jbM
  simp [am_up]
def ak_onC (h : ak_S) (n k : Nat) (s x nu : Int) : ak_S := (am_up (am_up (am_up (ak_kwC h k s x).1 78 n 1) 81 n nu) 77 10 0, (ak_kwC h k s x).2)
theorem ak_onC_o {h : ak_S} {n k q i : Nat} {s x nu : Int} (a : ¬ (q = 77 ∧ i = 10)) (b : ¬ ((q = 78 ∨ q = 81) ∧ i = n)) : (ak_onC h n k s x nu).1 q i = (ak_kwC h k s x).1 q i := by
  unfold ak_onC
  exact (ak_up_out1 a).trans ((ak_up_out (by omega)).trans (ak_up_out (by omega)))
theorem ak_onC_v {h : ak_S} {n k : Nat} {s x nu : Int} : (ak_onC h n k s x nu).1 77 10 = 0 ∧ (ak_onC h n k s x nu).1 78 n = 1 ∧ (ak_onC h n k s x nu).1 81 n = nu := by
  unfold ak_onC ak_kwC
  simp [am_up]
theorem ak_kwC_o {h : ak_S} {k q i : Nat} {s x : Int} (a : ¬ (q = 50 ∧ i = k)) : (ak_kwC h k s x).1 q i = h.1 q i := ak_up_out1 a
theorem ak_kwC_J {h : ak_S} {k q i : Nat} {s x : Int} (a : ¬ (q = 51 ∧ i = k)) : (ak_kwC h k s x).2.1 q i = h.2.1 q i := ak_up_out a
theorem ak_kwM_o {h : ak_S} {k q i : Nat} {s x : Int} (a : ¬ (q = 184 ∧ i = k)) : (ak_kwM h k s x).1 q i = h.1 q i := ak_up_out1 a
theorem ak_kwM_J {h : ak_S} {k q i : Nat} {s x : Int} (a : ¬ (q = 185 ∧ i = k)) : (ak_kwM h k s x).2.1 q i = h.2.1 q i := ak_up_out a
theorem ak_on (w : ak_UI c g up cur (j :: r) lo P hmO hc hm) (hk : j.k = 9) {y : Nat} (hy : j.n = (y : Int)) (h35 : ak_mM c.us c.m0 114 y = 35) (hw5 : j.w < 500) (hgo : hc.1 77 10 = 1) (es : ak_ES (ak_mC c.s c.h0) (ak_mM c.us c.m0) (ak_T c.s) c.us (g.mt cur.r + 40 * g.lv cur.r) (ak_K (ak_mC c.s c.h0) (ak_mM c.us c.m0) (ak_T c.s) c.us (g.mt cur.r + 40 * g.lv cur.r) r) r y j.w)
    {i1 y2 a' c1 G i : Nat} (hi1 : i1 < 1000) (hy2 : y2 < 18000) (y77 : ak_mM c.us c.m0 115 y2 ≠ -77) (e8 : ak_mM c.us c.m0 117 y2 = ak_mC c.s c.h0 (ak_T c.s + 8) i1) (b0 : 0 ≤ ak_mM c.us c.m0 117 y2) (b12 : ak_mM c.us c.m0 117 y2 < 12) (e9 : ak_mC c.s c.h0 (ak_T c.s + 9) i1 = (a' : Int))
    (t3 : ak_T3 (ak_mC c.s c.h0) (ak_mM c.us c.m0) (ak_T c.s) c.us 2 (ak_mM c.us c.m0 115 y2) 0 (g.mt cur.r + 40 * g.lv cur.r + 1000 * G) i a' c1) (k37 : ak_mC c.s c.h0 (ak_T c.s + 2) c1 = 37) (kw : ak_mC c.s c.h0 (ak_T c.s + 3) c1 = (j.w : Int)) (hG : ak_gc r + 1 + G ≤ 21) (hI : r.length + 1 + i ≤ 6165) :
    ∃ hc' hm' : ak_S, (∀ (Q : ak_S → Prop) (X : Nat → ak_S → Prop), Q hc' → ak_W0 e 0 (d + 38) 101 (ak_rc c.s ρ1 ρ2) 51 [some (am_r 32), some (am_i ((ak_nG lo + ak_gc r : Nat) : Int)), some (am_i (j.w : Int)), some (am_i (i1 : Int))] [] hc (ak_qv Q X)) ∧
      (∀ (d2 : Nat) (Q : Int → ak_S → Prop) (X : Nat → ak_S → Prop), Q 1 hm' → ak_W0 e 1 (d2 + 2) 277 ρ 44 [some (am_r 110), some (am_i j.n), some (am_i (y2 : Int))] [] (ak_ptM hm (ak_nJ lo + 1 + r.length) (ak_nT lo : Int)) (ak_qi Q X)) ∧ hc'.2.2 = hc.2.2 ∧ ∃ g' fs', ak_RN c g' fs' hc' hm' ∧ fs' ≠ [] ∧ ak_pcs fs' + 1 ≤ P ∧ ak_sm hm hm' := by
  obtain ⟨hs, l60, cU, φ5, φy, h174, h174O, inU, nc, h12, e133⟩ := ak_UI_at w
  obtain ⟨t1, t2, _, t4, t5, t6, t7, _⟩ := ak_m276 (x1 := 0) w
  obtain ⟨c4, cG, _⟩ := ak_c100g (e := e) (d := d) (ρ1 := ρ1) (ρ2 := ρ2) w (by omega)
  obtain ⟨⟨sp, nd, rw', h7, h8, hl⟩, ⟨u2, u3, u4, u5⟩, ⟨m1, m2, m3, m4, m5⟩, ⟨s1, s2, s3⟩, ⟨f0, jS, ⟨pc, sh, K⟩, jl, jg⟩, lo1, pb⟩ := w
  have jl2 : r.length + 1 ≤ 6165 := by rw [List.length_cons] at jl; exact jl
  obtain ⟨r78, r79, r80⟩ := (jS.2.1 (by omega)).1
  have ekc : ak_kc (j :: r) = ak_kc r := by
    show ak_kc r + (if j.k = 11 then 1 else 0) = _
    rw [if_neg (by omega)]; rfl
  have egw : ak_gw r + 2 = ak_gw (j :: r) := by
    show ak_gw r + 2 = ak_gw r + (if j.k = 9 then 2 else if j.k = 10 then 1 else 0)
    rw [if_pos hk]
  rw [ekc] at m3
  obtain ⟨_, yq2⟩ := ak_nde (q0 := 115) sp (by omega) y77
  obtain ⟨f1, f2, f3, f4, f5⟩ : hc.1 77 11 = hm.1 110 137 ∧ hc.1 77 12 = hm.1 110 135 ∧ hc.2.1 77 13 = hm.2.1 110 136 ∧ hc.1 77 14 = hm.1 110 138 ∧ ak_vok g.O g.B (hc.1 77 12) (hc.2.1 77 13) := by
    rcases u5.2 with z | ⟨_, z2, z3, z4, z5, z6⟩ | ⟨z, _⟩
    · exact absurd z u4
    · exact ⟨z2, z3, z4, z5, z6⟩
    · rw [hgo] at z; exact absurd z (by decide)
  obtain ⟨s, es12⟩ : ∃ s, s = hc.1 77 12 := ⟨_, rfl⟩
  obtain ⟨x, ex13⟩ : ∃ x, x = hc.2.1 77 13 := ⟨_, rfl⟩
  obtain ⟨nu, en14⟩ : ∃ nu, nu = hc.1 77 14 := ⟨_, rfl⟩
  obtain ⟨sl, esl⟩ : ∃ sl : Nat, ak_mM c.us c.m0 117 y2 = (sl : Int) := ⟨(ak_mM c.us c.m0 117 y2).toNat, by omega⟩
  rw [esl] at b0 b12 e8
  rw [← es12, ← ex13] at f5
  rw [← es12] at f2
  rw [← ex13] at f3
  rw [← en14] at f4
  have B := fun q k a => ak_ptM_o (h := hm) (n := ak_nJ lo + 1 + r.length) (t := (ak_nT lo : Int)) (q := q) (k := k) a
  obtain ⟨B132, B127⟩ := ak_ptM_v (h := hm) (n := ak_nJ lo + 1 + r.length) (t := (ak_nT lo : Int))
  have BJ : (ak_ptM hm (ak_nJ lo + 1 + r.length) (ak_nT lo : Int)).2 = hm.2 := rfl
  generalize ak_ptM hm (ak_nJ lo + 1 + r.length) (ak_nT lo : Int) = hmB at B B132 B127 BJ
  have nb : 0 ≤ ((ak_nG lo + ak_gc r : Nat) : Int) ∧ ((ak_nG lo + ak_gc r : Nat) : Int) < 1260 := by omega
  have ib : 0 ≤ (i1 : Int) ∧ (i1 : Int) < 1000 := by omega
  have yb : 0 ≤ (y2 : Int) ∧ (y2 : Int) < 18000 := by omega
  have x8 : hc.1 (ak_T c.s + 8) i1 = (sl : Int) := (ak_cx sp (by omega)).trans e8.symm
  have x9 : hc.1 (ak_T c.s + 9) i1 = (a' : Int) := (ak_cx sp (by omega)).trans e9
  have yO : ∀ q, 114 ≤ q → q ≤ 120 → hmB.1 q y2 = ak_mM c.us c.m0 q y2 := fun q a b => (B q y2 (by omega)).trans ((s1 q y2 (by unfold ak_stM; omega) (fun z => absurd z.1 (by omega))).trans (yq2 q a b))
  have r5 : cur.r < 560 := (sp.2.2.2.2.1.1.2.2.2.1 cur.r).mp (List.mem_append_right _ cU)
  obtain ⟨g', hc1, b1, b2, b3, b4, b5, gl, ⟨eO, eB, eφ⟩, b6⟩ := ak_back (e := e) (d := d) (ρ1 := ρ1) (ρ2 := ρ2) (ord := a') sp nd rw' h7 h8 hl f0.1.2.2.2.2.1
  have spB := b6 hmB (fun q k h h2 => (B q k (fun z => h.1 ⟨z.1, by omega⟩)).trans (s1 q k h h2)) (fun q k h => by rw [BJ]; exact s2 q k h) (fun y hy => by rw [B _ _ (by omega), B _ _ (by omega)]; exact s3 y hy)
  have gf := gl.2.2 cur.r (by simp [ak_rms])
  have HO : ∀ q k, ¬ (q = 32 ∧ k = 10) → ¬ (q = 72 ∧ k = lo.length) → ((am_up (am_up hc1.1 72 lo.length (a' : Int)) 32 10 (ak_nV lo : Int), hc1.2) : ak_S).1 q k = hc1.1 q k := fun q k a b => (ak_up_out1 a).trans (ak_up_out b)
  have H10 : ((am_up (am_up hc1.1 72 lo.length (a' : Int)) 32 10 (ak_nV lo : Int), hc1.2) : ak_S).1 32 10 = (ak_nV lo : Int) := ak_up_at1
  have H72 : ((am_up (am_up hc1.1 72 lo.length (a' : Int)) 32 10 (ak_nV lo : Int), hc1.2) : ak_S).1 72 lo.length = (a' : Int) := (ak_up_out1 (by omega)).trans ak_up_at
  have HJ : ((am_up (am_up hc1.1 72 lo.length (a' : Int)) 32 10 (ak_nV lo : Int), hc1.2) : ak_S).2 = hc.2 := b5
  generalize ((am_up (am_up hc1.1 72 lo.length (a' : Int)) 32 10 (ak_nV lo : Int), hc1.2) : ak_S) = hcH at b1 HO H10 H72 HJ
  have CH : ∀ q k, ¬ (q = 32 ∧ k = 10) → ¬ (q = 72 ∧ k = lo.length) → ¬ (q = 69 ∧ (k = 7 ∨ k = 8)) → ¬ (q = 54 ∧ k ∈ ak_rms up) → q ≠ 60 → ¬ (q = 49 ∧ k = 11) → hcH.1 q k = hc.1 q k := fun q k a b c' d' e' f' => (HO q k a b).trans (b4 q k c' d' e' f')
  have spW := ak_SP_word (r := cur.r) (k := sl) (s := s) (x := x) spB gf.1 (by omega) (by rw [eO, eB]; exact f5)
  rw [eφ] at spW
  -- the one
  have goC : ∀ (Q : ak_S → Prop) (X : Nat → ak_S → Prop), Q (ak_onC hcH (ak_nG lo + ak_gc r) (12 * cur.r + sl) s x nu) → ak_W0 e 0 (d + 38) 101 (ak_rc c.s ρ1 ρ2) 51 [some (am_r 32), some (am_i ((ak_nG lo + ak_gc r : Nat) : Int)), some (am_i (j.w : Int)), some (am_i (i1 : Int))] [] hc (ak_qv Q X) := fun Q X q => by
    refine am_k101_51 hs ⟨fun z => absurd z (by omega), fun _ => ⟨nb, ib, ?_⟩⟩
    rw [ak_natn, ak_natn, r80, x9]
    refine b1 _ _ ?_
    have hT : ak_T c.s = 9 ∨ ak_T c.s = 87 := ak_T_bd hs
    rw [CH 80 _ (by omega) (by omega) (by omega) (by omega) (by omega) (by omega), r80, ak_natn, CH 70 _ (by omega) (by omega) (by omega) (by omega) (by omega) (by omega), f0.1.2.1, CH (ak_T c.s + 8) _ (by omega) (by omega) (by omega) (by omega) (by omega) (by omega), x8, CH 77 12 (by omega) (by omega) (by omega) (by omega) (by omega) (by omega), ← es12, HJ, ← ex13]
    refine ⟨nb, by omega, ib, ?_⟩
    rw [show (sl : Int) = ((16 * 0 + sl : Nat) : Int) by omega]
    refine am_s146 (d := d + 36) (hops := 0) r5 (by decide) (by omega) (fun k hk => absurd hk (Nat.not_lt_zero _)) r5 ⟨nb, nb, ?_⟩
    have e14 : (ak_kwC hcH (12 * ak_out hcH 0 cur.r + sl) s x).1 77 14 = nu := (ak_kwC_o (by omega)).trans ((CH 77 14 (by omega) (by omega) (by omega) (by omega) (by omega) (by omega)).trans en14.symm)
    rw [e14]
    exact q
  -- the other
  have goM : ∀ (d2 : Nat) (Q : Int → ak_S → Prop) (X : Nat → ak_S → Prop), Q 1 (ak_onM hmB (ak_nJ lo + 1 + r.length) (12 * g.φ cur.r + sl) (y : Int) nu (ak_nT lo : Int) s x (ak_mM c.us c.m0 115 y2)) → ak_W0 e 1 (d2 + 2) 277 ρ 44 [some (am_r 110), some (am_i j.n), some (am_i (y2 : Int))] [] hmB (ak_qi Q X) := fun d2 Q X q => by
    refine am_k277_44 ?_
    rw [B 110 138 (by omega), ← f4, B127, hy]
    refine am_s266 (d := d2 + 1) (n := ak_nJ lo + 1 + r.length) B132 t2 ⟨yb, ?_⟩
    rw [ak_natn, ak_jb_out (by omega) (by omega), B 110 102 (by omega), m1, ak_jb_out (q := 117) (by omega) (by omega), yO 117 (by omega) (by omega), esl, ak_jb_out (q := 110) (i := 135) (by omega) (by omega), B 110 135 (by omega), ← f2, show (ak_jbM hmB (ak_nJ lo + 1 + r.length) 10 (y : Int) nu (ak_nT lo : Int)).2.1 110 136 = x from (congrArg (fun z => z.1 110 136) BJ).trans f3.symm]
    refine am_s274 (d := d2 + 1) φ5 (by omega) ⟨yb, ?_⟩
    rw [ak_kwM_o (by omega), ak_jb_out (by omega) (by omega), yO 115 (by omega) (by omega)]
    exact am_s266 (d := d2 + 1) (n := ak_nJ lo + 1 + r.length + 1) ((ak_kwM_o (by omega)).trans ak_jb_132) (by omega) ⟨Or.inr rfl, q⟩
  -- states
  have EO := fun q i a b => ak_onC_o (h := hcH) (n := ak_nG lo + ak_gc r) (k := 12 * cur.r + sl) (s := s) (x := x) (nu := nu) (q := q) (i := i) a b
  obtain ⟨v1, v2, v3⟩ := ak_onC_v (h := hcH) (n := ak_nG lo + ak_gc r) (k := 12 * cur.r + sl) (s := s) (x := x) (nu := nu)
  have EJ : (ak_onC hcH (ak_nG lo + ak_gc r) (12 * cur.r + sl) s x nu).2 = (ak_kwC hcH (12 * cur.r + sl) s x).2 := rfl
  generalize ak_onC hcH (ak_nG lo + ak_gc r) (12 * cur.r + sl) s x nu = hcF at goC EO v1 v2 v3 EJ
  have MO := fun q i a b => ak_onM_o (h := hmB) (n := ak_nJ lo + 1 + r.length) (k := 12 * g.φ cur.r + sl) (y := (y : Int)) (nu := nu) (t := (ak_nT lo : Int)) (s := s) (x := x) (x2 := ak_mM c.us c.m0 115 y2) (q := q) (i := i) a b
  obtain ⟨o1, ⟨o3, o4, o5, o6⟩, ⟨o7, o8, o9, oa⟩⟩ := ak_onM_v (h := hmB) (n := ak_nJ lo + 1 + r.length) (k := 12 * g.φ cur.r + sl) (y := (y : Int)) (nu := nu) (t := (ak_nT lo : Int)) (s := s) (x := x) (x2 := ak_mM c.us c.m0 115 y2)
  have MJ : (ak_onM hmB (ak_nJ lo + 1 + r.length) (12 * g.φ cur.r + sl) (y : Int) nu (ak_nT lo : Int) s x (ak_mM c.us c.m0 115 y2)).2 = (ak_kwM hmB (12 * g.φ cur.r + sl) s x).2 := rfl
  generalize ak_onM hmB (ak_nJ lo + 1 + r.length) (12 * g.φ cur.r + sl) (y : Int) nu (ak_nT lo : Int) s x (ak_mM c.us c.m0 115 y2) = hmF at goM MO o1 o3 o4 o5 o6 o7 o8 o9 oa MJ
  have CFc : ∀ q k, q ≠ 32 → ¬ (q = 72 ∧ k = lo.length) → ¬ (q = 69 ∧ (k = 7 ∨ k = 8)) → ¬ (q = 54 ∧ k ∈ ak_rms up) → q ≠ 60 → ¬ (q = 49 ∧ k = 11) → ¬ (q = 77 ∧ k = 10) → ¬ ((q = 78 ∨ q = 81) ∧ k = ak_nG lo + ak_gc r) → q ≠ 50 → hcF.1 q k = hc.1 q k := fun q k a b c' d' e' f' g' h' i' => (EO q k g' h').trans ((ak_kwC_o (fun z => i' z.1)).trans (CH q k (fun z => a z.1) b c' d' e' f'))
  have CFJ : ∀ q k, q ≠ 51 → hcF.2.1 q k = hc.2.1 q k := fun q k a => by
    rw [EJ, ak_kwC_J (fun z => a z.1), HJ]
  have MF : ∀ q i, ¬ (q = 110 ∧ (i = 127 ∨ i = 132)) → ¬ (201 ≤ q ∧ q ≤ 204 ∧ (i = ak_nJ lo + 1 + r.length ∨ i = ak_nJ lo + 1 + r.length + 1)) → q ≠ 184 → hmF.1 q i = hm.1 q i := fun q i a b b2 => (MO q i (by omega) b).trans ((ak_kwM_o (fun z => b2 z.1)).trans (B q i (by omega)))
  have MFJ : ∀ q i, q ≠ 185 → hmF.2.1 q i = hm.2.1 q i := fun q i a => by
    rw [MJ, ak_kwM_J (fun z => a z.1), BJ]
  have hr54 : ∀ y, y ∈ ak_rms (cur :: lo) → y ∉ ak_rms up := fun y hy h => by
    have e1' : ak_rms (up ++ cur :: lo) = ak_rms up ++ ak_rms (cur :: lo) := by simp [ak_rms]
    rw [e1'] at nd
    exact (List.nodup_append.mp nd).2.2 y h y hy rfl
  refine ⟨hcF, hmF, goC, goM, by rw [EJ]; show hcH.2.2 = _; rw [HJ], g', ⟨cur.r, a', ⟨2, ak_mM c.us c.m0 115 y2, 0, 0, 0⟩ :: ⟨10, (y : Int), nu, (ak_nT lo : Int), j.w⟩ :: r, []⟩ :: lo,
    ak_tk f0 lo1 l60 (ak_SP_fr spW (fun q k h => ⟨?_, ?_⟩) (fun q k h => ⟨MO q k (fun z => h.1 ⟨z.1, by omega⟩) (by unfold ak_stM at h; omega), by rw [MJ]⟩)) gl (fun q k h => CFc q k (by omega) (by omega) (by omega) (by omega) (by omega) (by omega) (by omega) (by omega) (by omega)) (fun q k h => CFJ q k (by omega))
      (fun y hy => ⟨CFc 54 y (by omega) (by omega) (by omega) (fun z => hr54 y hy z.2) (by omega) (by omega) (by omega) (by omega) (by omega), CFc 56 _ (by omega) (by omega) (by omega) (by omega) (by omega) (by omega) (by omega) (by omega) (by omega), CFJ 57 _ (by omega)⟩)
      (fun q k h => MF q k (by omega) (by omega) (by omega)) (fun q k h => MFJ q k (by omega)) ?_ ?_ ?_ ?_ ?_ ?_ v1 ?_ ?_ ?_ ?_ ?_ ?_ ?_ ?_ ⟨?_, ?_⟩, by simp, ?_, fun q hq => MF _ _ (by omega) (by omega) (by omega)⟩
  · rw [EO q k (by unfold ak_stC at h; omega) (by unfold ak_stC at h; omega)]
    exact ak_up_cg (HO q k (by unfold ak_stC at h; omega) (by unfold ak_stC at h; omega))
  · rw [EJ]
    exact ak_up_cg (by rw [HJ, b5])
  · rw [EO _ _ (by omega) (by omega), ak_kwC_o (by omega)]; exact H72
  · rw [EO _ _ (by omega) (by omega), ak_kwC_o (by omega), HO _ _ (by omega) (by omega)]; exact b2
  · rw [EO _ _ (by omega) (by omega), ak_kwC_o (by omega), HO _ _ (by omega) (by omega)]; exact b3
  · rw [CFc 77 4 (by omega) (by omega) (by omega) (by omega) (by omega) (by omega) (by omega) (by omega) (by omega), c4]; rfl
  · rw [EO _ _ (by omega) (by omega), ak_kwC_o (by omega)]; exact H10
  · rw [EO _ _ (by omega) (by omega), ak_kwC_o (by omega), CH _ _ (by omega) (by omega) (by omega) (by omega) (by omega) (by omega)]; exact u3
  · rw [MF _ _ (by omega) (by omega) (by omega)]; exact m1
  · rw [MF _ _ (by omega) (by omega) (by omega)]; exact m5
  · rw [MO _ _ (by omega) (by omega), ak_kwM_o (by omega)]; exact B127
  · rw [o1, List.length_cons, List.length_cons]; congr 1
  · rw [MF _ _ (by omega) (by omega) (by omega), m3]; rfl
  · rw [MF _ _ (by omega) (by omega) (by omega)]; exact m4
  · refine ⟨⟨o7, o8, o9, oa⟩, fun h => absurd h (by show ¬ (9 ≤ 2); omega), fun h => absurd h (by show ¬ (2 = 11); omega), ⟨o3, o4, o5, o6⟩, fun _ => ⟨⟨v2, ?_, ?_⟩, fun _ => v3, rfl⟩, fun h => absurd h (by show ¬ (10 = 11); omega), ak_JS_fr gl.1 gl.2.1 (fun y hy => by rw [eφ]) jS.2.2.2 (fun q k a b h => ⟨CFc q k (by omega) (by omega) (by omega) (by omega) (by omega) (by omega) (by omega) (by omega) (by omega), CFJ q k (by omega)⟩) (fun q k a b h => MF q k (by omega) (by omega) (by omega)) (fun q k a b h => ⟨MF q k (by omega) (by omega) (by omega), MFJ q k (by omega)⟩)⟩
    · exact (CFc 79 _ (by omega) (by omega) (by omega) (by omega) (by omega) (by omega) (by omega) (by omega) (by omega)).trans r79
    · exact (CFc 80 _ (by omega) (by omega) (by omega) (by omega) (by omega) (by omega) (by omega) (by omega) (by omega)).trans r80
  · refine ak_K_mk ⟨rfl, c1, i, G, ?_, ?_, t3, ak_K_mk ⟨rfl, y, rfl, h35, hw5, k37, kw, es⟩⟩
    · rw [List.length_cons]; omega
    · rw [ak_gc_cons (by omega)]; omega
  · rw [List.length_cons, List.length_cons]
    have := (ak_T3_open t3).1
    omega
  · show ak_gc ((⟨10, (y : Int), nu, (ak_nT lo : Int), j.w⟩ : ak_Jb) :: r) + 0 ≤ 21
    rw [ak_gc_cons (by omega)]; omega
  · show ak_pcs lo + (9100 - a') + 9101 * (ak_gw r + 1 + 0) + 1 ≤ P
    omega
end LVO
