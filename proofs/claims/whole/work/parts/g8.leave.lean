/-! the run: what is under way is left: definitions, single steps -/
/-- all but the journal stays -/
theorem ak_SP_re {c : ak_Cx} {g : ak_Gh} {V : List Nat} {hc hm hc' hm' : ak_S} (w : ak_SPP c g V hc hm) (jn : ak_jn hc' hm') (fc : ∀ q k, ak_stC q → ¬ (64 ≤ q ∧ q ≤ 68) → hc'.1 q k = hc.1 q k ∧ hc'.2.1 q k = hc.2.1 q k) (fm : ∀ q k, ak_stM q k → ¬ (q = 110 ∧ (k = 104 ∨ (106 ≤ k ∧ k ≤ 111))) → ¬ (186 ≤ q ∧ q ≤ 198) → hm'.1 q k = hm.1 q k ∧ hm'.2.1 q k = hm.2.1 q k) : ak_SPP c g V hc' hm' := by
  -- what has the old journal
  have w1 : ak_SPP c g V ((fun q k => if 64 ≤ q ∧ q ≤ 68 then hc.1 q k else hc'.1 q k), (fun q k => if 64 ≤ q ∧ q ≤ 68 then hc.2.1 q k else hc'.2.1 q k), hc'.2.2)
      ((fun q k => if (q = 110 ∧ (k = 104 ∨ (106 ≤ k ∧ k ≤ 111))) ∨ (186 ≤ q ∧ q ≤ 198) then hm.1 q k else hm'.1 q k), (fun q k => if (q = 110 ∧ (k = 104 ∨ (106 ≤ k ∧ k ≤ 111))) ∨ (186 ≤ q ∧ q ≤ 198) then hm.2.1 q k else hm'.2.1 q k), hm'.2.2) := by
    refine ak_SP_fr w (fun q k h => ?_) (fun q k h => ?_)
    · dsimp only
      by_cases h2 : 64 ≤ q ∧ q ≤ 68
      · rw [if_pos h2, if_pos h2]; exact ⟨rfl, rfl⟩
      · rw [if_neg h2, if_neg h2]; exact fc q k h h2
    · dsimp only
      by_cases h2 : (q = 110 ∧ (k = 104 ∨ (106 ≤ k ∧ k ≤ 111))) ∨ (186 ≤ q ∧ q ≤ 198)
      · rw [if_pos h2, if_pos h2]; exact ⟨rfl, rfl⟩
      · rw [if_neg h2, if_neg h2]; exact fm q k h (fun z => h2 (Or.inl z)) (fun z => h2 (Or.inr z))
  obtain ⟨⟨hs, tx⟩, ag, ⟨hO, wd⟩, st, rm, _, al, k1, k2⟩ := w1
  have hT := ak_T_bd hs
  have A : ∀ q k, ¬ (64 ≤ q ∧ q ≤ 68) → hc'.1 q k = (if 64 ≤ q ∧ q ≤ 68 then hc.1 q k else hc'.1 q k) ∧ hc'.2.1 q k = (if 64 ≤ q ∧ q ≤ 68 then hc.2.1 q k else hc'.2.1 q k) := fun q k h => by rw [if_neg h, if_neg h]; exact ⟨rfl, rfl⟩
  have B : ∀ q k, ¬ ((q = 110 ∧ (k = 104 ∨ (106 ≤ k ∧ k ≤ 111))) ∨ (186 ≤ q ∧ q ≤ 198)) → hm'.1 q k = (if (q = 110 ∧ (k = 104 ∨ (106 ≤ k ∧ k ≤ 111))) ∨ (186 ≤ q ∧ q ≤ 198) then hm.1 q k else hm'.1 q k) ∧ hm'.2.1 q k = (if (q = 110 ∧ (k = 104 ∨ (106 ≤ k ∧ k ≤ 111))) ∨ (186 ≤ q ∧ q ≤ 198) then hm.2.1 q k else hm'.2.1 q k) := fun q k h => by rw [if_neg h, if_neg h]; exact ⟨rfl, rfl⟩
  obtain ⟨wy, hwy⟩ := al.2.2.2.2.1
  refine ⟨⟨hs, tx⟩, ak_agT_fr ag (fun q k a b => A q k (by omega)) (fun q k a => (B q k (by unfold ak_tmI at a; omega)).1), ⟨hO, ak_WD_fr wd ⟨fun q k h => (A q k (by omega)).1, fun k => (A 36 k (by omega)).2⟩ ⟨fun q k h => (B q k (by omega)).1, fun k => (B 146 k (by omega)).2⟩⟩, ak_ST_fr st (fun q k h => (A q k (by omega)).1) (fun k => (A 46 k (by omega)).2) (fun q k h => (B q k (by omega)).1),
    ak_RM_fr rm (fun q k a b => A q k (by omega)) (fun q k h => B q k (by omega)), jn, ak_all_fr al (fun q k h => (A q k (by omega)).1) (fun k => (A 5 k (by omega)).2) (fun q k h => (B q k (by omega)).1) ⟨wy, ak_wyS_fr2 hwy (fun q k h => (B q k (by omega)).1)⟩, (A 1 8 (by omega)).1.trans k1, (B 110 4 (by omega)).1.trans k2.1, (B 110 0 (by omega)).1.trans k2.2⟩
/-- while something is being left: up left already, cur being left (js its jobs yet), lo below -/
def ak_UI (c : ak_Cx) (g : ak_Gh) (up : List ak_Fr) (cur : ak_Fr) (js : List ak_Jb) (lo : List ak_Fr) (P : Nat) (hmO hc hm : ak_S) : Prop :=
  (ak_SPP c g (ak_rms (up ++ cur :: lo)) hc hmO ∧ (ak_rms (up ++ cur :: lo)).Nodup ∧ (∀ p f q, up ++ cur :: lo = p ++ f :: q → hc.1 70 q.length = (f.r : Int) ∧ (hc.1 76 q.length = 0 ∨ hc.1 76 q.length = 1) ∧ f.r ∈ g.Us) ∧ hc.1 69 7 = ((up ++ cur :: lo).length : Int) ∧ hc.1 69 8 = ak_nH hc (up ++ cur :: lo) ∧ (up ++ cur :: lo).length ≤ 60) ∧
  (hc.1 77 4 = ((ak_nG lo + ak_gc js : Nat) : Int) ∧ hc.1 32 11 = -1 ∧ hc.1 77 10 ≠ 0 ∧ ak_wyr g.O g.B g.φ (cur.r :: ak_rms lo) (hc.1 77 10) (hc.1 77 11) (hc.1 77 12) (hc.2.1 77 13) (hc.1 77 14) (hm.1 110 133) (hm.1 110 134) (hm.1 110 135) (hm.2.1 110 136) (hm.1 110 137) (hm.1 110 138)) ∧
  (hm.1 110 102 = (g.φ cur.r : Int) ∧ hm.1 110 132 = ((ak_nJ lo + 1 + js.length : Nat) : Int) ∧ hm.1 110 139 = ((ak_nK lo + ak_kc js : Nat) : Int) ∧ hm.1 110 105 = -1 ∧ hm.1 110 103 = ((lo.length + 1 : Nat) : Int)) ∧
  ((∀ q k, ak_stM q k → ¬ ((q = 173 ∨ q = 175) ∧ ∃ y, y ∈ ak_rms up ∧ k = g.φ y) → hm.1 q k = hmO.1 q k) ∧ (∀ q k, ak_stM q k → hm.2.1 q k = hmO.2.1 q k) ∧ ∀ y, y ∈ ak_rms up → hm.1 175 (g.φ y) = 0 ∧ hm.1 173 (g.φ y) = hmO.1 174 (g.φ y)) ∧
  (ak_F0 g hc hm lo cur.r ∧ ak_JS g.O g.B g.φ (cur.r :: ak_rms lo) lo.length (ak_nJ lo + 1) (ak_nG lo) (ak_nK lo) (ak_nT lo) hc hm js ∧ (∃ pc sh, ak_K (ak_mC c.s c.h0) (ak_mM c.us c.m0) (ak_T c.s) c.us (g.mt cur.r + 40 * g.lv cur.r) js pc sh) ∧ js.length ≤ 6165 ∧ ak_gc js ≤ 21) ∧
  ak_LO c g hc hm [true] lo ∧ ak_pcs lo + 9101 * ak_gw js + 1 ≤ P
/-- the sums of the journal stay -/
def ak_sm (hm hm' : ak_S) : Prop := ∀ q, (q = 104 ∨ (109 ≤ q ∧ q ≤ 111)) → hm'.1 110 q = hm.1 110 q
/-- the run's end: o how, hcE hmE where both loops end -/
def ak_FN (e : ak_X3) (d ρ1 ρ2 : Nat) (ρ : List Nat) (c : ak_Cx) (o : Int) (hcE hmE : ak_S) : Prop := ∃ (g' : ak_Gh) (hcF hmF : ak_S), ak_cgo e (d + 40) c.s ρ1 ρ2 104 [am_r 32, am_i 0] hcE hcF ∧ hcE.1 32 11 = o ∧ hcF.1 32 11 = o ∧ 0 ≤ o ∧ (hmE.1 110 132 ≤ 0 ∨ 0 ≤ hmE.1 110 105) ∧
  (∀ (Q : Int → ak_S → Prop) (X : Nat → ak_S → Prop), Q o hmF → (0 ≤ hmE.1 110 105 → ak_W0 e 1 (d + 41) 302 ρ 139 [some (am_r 110), none, none, none, none, none, none, none] [] hmE (ak_qi Q X)) ∧ (hmE.1 110 105 < 0 → ak_W0 e 1 (d + 41) 302 ρ 139 [some (am_r 110), none, none, none, none, none, none, none] [] (am_up hmE.1 110 105 0, hmE.2) (ak_qi Q X))) ∧ ak_SPP c g' [] hcF hmF ∧ hcF.2.2 = hcE.2.2 ∧ ak_em hcF
def ak_LR (e : ak_X3) (d ρ1 ρ2 : Nat) (ρ : List Nat) (c : ak_Cx) (P : Nat) (hc hm : ak_S) : Prop := ∃ hc' hm' : ak_S,
  (∀ (x : Nat) (Q : ak_S → Prop) (X : Nat → ak_S → Prop), (x : Int) + hc.1 77 4 ≤ 1260 → Q hc' → ak_W0 e 0 (d + 39) 100 (ak_rc c.s ρ1 ρ2) 2 [some (am_r 32), some (am_i (x : Int)), none] [] hc (ak_qv Q X)) ∧
  (∀ (Q : ak_S → Prop) (X : Nat → ak_S → Prop), Q hm' → ak_W0 e 1 (d + 20) 276 ρ 2 [some (am_r 110), some (am_i 1), none] [] hm (ak_qv Q X)) ∧ hc'.2.2 = hc.2.2 ∧
  ((∃ g' fs', ak_RN c g' fs' hc' hm' ∧ fs' ≠ [] ∧ ak_pcs fs' + 1 ≤ P ∧ ak_sm hm hm') ∨ ∃ o, ak_FN e d ρ1 ρ2 ρ c o hc' hm')
section LVS
variable {e : ak_X3} {d ρ1 ρ2 P : Nat} {ρ : List Nat} {c : ak_Cx} {g g' : ak_Gh} {up lo : List ak_Fr} {cur f : ak_Fr} {hmO hc hm hc' hm' : ak_S} {j : ak_Jb} {r js : List ak_Jb} {aw : List Bool}
theorem ak_K_kind {C M : Nat → Nat → Int} {T p lt : Nat} {pc : Nat} {sh : List Bool} (w : ak_K C M T p lt (j :: r) pc sh) : 1 ≤ j.k ∧ j.k ≤ 11 ∧ j.k ≠ 8 := by
  obtain ⟨n, a, _, w⟩ := w
  unfold ak_K0 at w
  split at w <;> first | (exact w.elim) | omega
theorem ak_nG_le : ∀ {fs : List ak_Fr} {aw : List Bool}, ak_LO c g hc hm aw fs → ak_nG fs ≤ 21 * fs.length := by
  intro fs
  induction fs with
  | nil => intro _ _; exact Nat.le_refl _
  | cons f fs ih =>
    intro aw w
    have h1 := ih w.2
    have h2 := w.1.2.2.2.2.2.2.2
    show ak_nG fs + ak_gc f.js ≤ 21 * (fs.length + 1)
    omega
theorem ak_nJ_le : ∀ {fs : List ak_Fr} {aw : List Bool}, ak_LO c g hc hm aw fs → ak_nJ fs ≤ 6166 * fs.length := by
  intro fs
  induction fs with
  | nil => intro _ _; exact Nat.le_refl _
  | cons f fs ih =>
    intro aw w
    have h1 := ih w.2
    have h2 := w.1.2.2.2.2.2.1
    show ak_nJ fs + 1 + f.js.length ≤ 6166 * (fs.length + 1)
    omega
theorem ak_kc_le : ∀ {l : List ak_Jb}, ak_kc l ≤ ak_gc l := by
  intro l
  induction l with
  | nil => exact Nat.le_refl _
  | cons j l ih =>
    show ak_kc l + (if j.k = 11 then 1 else 0) ≤ ak_gc l + (if 9 ≤ j.k then 1 else 0)
    by_cases h : j.k = 11
    · rw [if_pos h, if_pos (by omega)]; omega
    · rw [if_neg h]; omega
theorem ak_nK_le : ∀ {fs : List ak_Fr}, ak_nK fs ≤ ak_nG fs := by
  intro fs
  induction fs with
  | nil => exact Nat.le_refl _
  | cons f fs ih =>
    have := ak_kc_le (l := f.js)
    show ak_nK fs + ak_kc f.js ≤ ak_nG fs + ak_gc f.js
    omega
theorem ak_tc_le : ∀ {l : List (Bool × Int × Int)}, ak_tc l ≤ l.length := by
  intro l
  induction l with
  | nil => exact Nat.le_refl _
  | cons v l ih =>
    show ak_tc l + (if v.1 = true then 1 else 0) ≤ l.length + 1
    split <;> omega
theorem ak_nV_le : ∀ {fs : List ak_Fr} {aw : List Bool}, ak_LO c g hc hm aw fs → ak_nV fs ≤ 151 * fs.length ∧ ak_nT fs ≤ ak_nV fs := by
  intro fs
  induction fs with
  | nil => intro _ _; exact ⟨Nat.le_refl _, Nat.le_refl _⟩
  | cons f fs ih =>
    intro aw w
    have h1 := ih w.2
    have h2 := w.1.2.2.2.2.2.2.1
    have h3 := ak_tc_le (l := f.vs)
    show ak_nV fs + f.vs.length ≤ 151 * (fs.length + 1) ∧ ak_nT fs + ak_tc f.vs ≤ ak_nV fs + f.vs.length
    omega
theorem ak_LO_75 : ∀ {fs : List ak_Fr} {aw : List Bool}, ak_LO c g hc hm aw fs → ∀ k, k < fs.length → 0 ≤ hc.1 75 k ∧ hc.1 75 k ≤ (ak_nG fs : Int) := by
  intro fs
  induction fs with
  | nil => intro _ _ k hk; exact absurd hk (Nat.not_lt_zero _)
  | cons f fs ih =>
    intro aw w k hk
    rw [List.length_cons] at hk
    have e : ak_nG (f :: fs) = ak_nG fs + ak_gc f.js := rfl
    rw [e]
    by_cases h : k = fs.length
    · have := w.1.1.2.2.2.2.2.2.1
      rw [h, this]
      omega
    · have := ih w.2 k (by omega)
      omega
/-- the topmost job of the other, while leaving -/
theorem ak_m276 {x1 : Int} (w : ak_UI c g up cur (j :: r) lo P hmO hc hm) : hm.1 110 132 = ((ak_nJ lo + 1 + r.length + 1 : Nat) : Int) ∧ ak_nJ lo + 1 + r.length < 370000 ∧ hm.1 201 (ak_nJ lo + 1 + r.length) = (j.k : Int) ∧ hm.1 202 (ak_nJ lo + 1 + r.length) = j.n ∧ hm.1 203 (ak_nJ lo + 1 + r.length) = j.a ∧ hm.1 204 (ak_nJ lo + 1 + r.length) = j.b ∧ ak_nJ lo ≤ 6166 * lo.length ∧ lo.length + 1 ≤ 60 := by
  obtain ⟨⟨_, _, _, _, _, l60⟩, _, ⟨_, m132, _⟩, _, ⟨_, ⟨js1, _⟩, _, jl, _⟩, lo1, _⟩ := w
  have h1 := ak_nJ_le lo1
  rw [List.length_append, List.length_cons] at l60
  rw [List.length_cons] at jl m132
  exact ⟨m132, by omega, js1.1, js1.2.1, js1.2.2.1, js1.2.2.2, h1, by omega⟩
/-- a plain job is dropped by the other -/
theorem ak_lv_skip (w : ak_UI c g up cur (j :: r) lo P hmO hc hm) (hk : j.k < 8) (ih : ∀ hm1, ak_UI c g up cur r lo P hmO hc hm1 → ak_sm hm hm1 → ak_LR e d ρ1 ρ2 ρ c P hc hm1) : ak_LR e d ρ1 ρ2 ρ c P hc hm := by
  obtain ⟨q1, q2, q3, q4, q5, q6, q7, q8⟩ := ak_m276 (x1 := 0) w
  obtain ⟨u1, ⟨u2, u3, u4, u5⟩, ⟨m1, m2, m3, m4, m5⟩, ⟨s1, s2, s3⟩, ⟨f0, jS, ⟨pc, sh, K⟩, jl, jg⟩, lo1, pb⟩ := w
  have P0 : ∀ q k, ¬ (q = 110 ∧ k = 132) → (ak_poM hm (ak_nJ lo + 1 + r.length)).1 q k = hm.1 q k := fun q k h => ak_up_out h
  have eg : ak_gc (j :: r) = ak_gc r := by show ak_gc r + (if 9 ≤ j.k then 1 else 0) = _; rw [if_neg (by omega)]; rfl
  have ek : ak_kc (j :: r) = ak_kc r := by show ak_kc r + (if j.k = 11 then 1 else 0) = _; rw [if_neg (by omega)]; rfl
  have ew : ak_gw (j :: r) = ak_gw r := by show ak_gw r + (if j.k = 9 then 2 else if j.k = 10 then 1 else 0) = _; rw [if_neg (by omega), if_neg (by omega)]; rfl
  have P132 : (ak_poM hm (ak_nJ lo + 1 + r.length)).1 110 132 = ((ak_nJ lo + 1 + r.length : Nat) : Int) := ak_poM_v
  have PJ : (ak_poM hm (ak_nJ lo + 1 + r.length)).2 = hm.2 := rfl
  have go : ∀ (Q : ak_S → Prop) (X : Nat → ak_S → Prop), ak_W0 e 1 (d + 20) 276 ρ 2 [some (am_r 110), some (am_i 1), none] [] (ak_poM hm (ak_nJ lo + 1 + r.length)) (ak_qv Q X) → ak_W0 e 1 (d + 20) 276 ρ 2 [some (am_r 110), some (am_i 1), none] [] hm (ak_qv Q X) := by
    intro Q X q
    refine am_k276_2 ?_
    rw [q1, show am_w32 (((ak_nJ lo + 1 + r.length + 1 : Nat) : Int) - 1) = ((ak_nJ lo + 1 + r.length : Nat) : Int) from by rw [ak_w _ (by omega)]; omega, ak_natn, q3]
    exact ⟨fun z => absurd z (by decide), fun _ => ⟨fun z => absurd z (by omega), fun _ => ⟨by omega, by omega, trivial, fun _ => q, fun z => absurd z (by omega), fun z => absurd z (by omega), fun z => absurd z (by omega), fun z => absurd z (by omega), trivial⟩⟩⟩
  generalize ak_poM hm (ak_nJ lo + 1 + r.length) = hm1 at P0 P132 PJ go
  obtain ⟨pc', sh', K'⟩ := ak_K_tl K
  obtain ⟨hc', hm', g1, g2, g3, g4⟩ := ih hm1 ⟨u1, ⟨by rw [u2, eg], u3, u4, by rw [P0 110 133 (by omega), P0 110 134 (by omega), P0 110 135 (by omega), P0 110 137 (by omega), P0 110 138 (by omega), PJ]; exact u5⟩, ⟨(P0 _ _ (by omega)).trans m1, P132, by rw [P0 _ _ (by omega), m3, ek], (P0 _ _ (by omega)).trans m4, (P0 _ _ (by omega)).trans m5⟩,
    ⟨fun q k h h2 => (P0 q k (fun z => h.1 ⟨z.1, by omega⟩)).trans (s1 q k h h2), fun q k h => by rw [PJ]; exact s2 q k h, fun y hy => by rw [P0 _ _ (by omega), P0 _ _ (by omega)]; exact s3 y hy⟩,
    ⟨ak_F0_fr f0 (fun _ _ => rfl) f0.1.1 rfl (fun _ _ _ _ _ => rfl) (by rw [P0 _ _ (by omega)]; exact f0.1.2.2.2.1) rfl (P0 _ _ (by omega)) (fun q a b => P0 _ _ (by omega)), ak_JS_fr (Nat.le_refl _) (Nat.le_refl _) (fun _ _ => rfl) jS.2.2.2 (fun _ _ _ _ _ => ⟨rfl, rfl⟩) (fun q k a b _ => P0 q k (by omega)) (fun q k a b _ => ⟨P0 q k (by omega), by rw [PJ]⟩), ⟨pc', sh', K'⟩, by rw [List.length_cons] at jl; omega, by omega⟩,
    ak_LO_kp ⟨Nat.le_refl _, Nat.le_refl _, fun y hy => ⟨((ak_LO_row lo1).2.2.1 y hy).1, rfl, rfl, rfl, rfl⟩⟩ lo1 (fun _ _ _ => rfl) (fun _ _ _ => rfl) (fun _ _ => ⟨rfl, rfl, rfl⟩) (fun q k h => P0 q k (by omega)) (fun q k h => by rw [PJ]), by rw [← ew]; exact pb⟩ (fun q hq => P0 _ _ (by omega))
  refine ⟨hc', hm', g1, fun Q X q => go Q X (g2 Q X q), g3, ?_⟩
  rcases g4 with ⟨g', fs', h1, h2, h3, h4⟩ | h
  · exact Or.inl ⟨g', fs', h1, h2, h3, fun q hq => (h4 q hq).trans (P0 _ _ (by omega))⟩
  · exact Or.inr h
end LVS
