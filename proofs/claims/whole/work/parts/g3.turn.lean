/-! the run: turns of the one, rounds of the other -/
abbrev ak_rc (u ρ1 ρ2 : Nat) : List Nat := [ak_T u, ρ1, ρ2, ak_T u, ak_T u + 1]
/-- n turns of the one; rounds of the other -/
def ak_turns (e : ak_X3) (d u ρ1 ρ2 n : Nat) (hc hc' : ak_S) : Prop := ∀ (K : Int → ak_S → Prop) (X : Nat → ak_S → Prop) (x : Nat), x + n ≤ 100000000 →
  ak_W0 e 0 d 70 (ak_rc u ρ1 ρ2) 71 [some (am_r 32), none, none, none, none, none, some (am_i ((x + n : Nat) : Int))] [] hc' (ak_qi K X) → ak_W0 e 0 d 70 (ak_rc u ρ1 ρ2) 71 [some (am_r 32), none, none, none, none, none, some (am_i (x : Int))] [] hc (ak_qi K X)
def ak_mgo (e : ak_X3) (d : Nat) (ρ : List Nat) (hm hm' : ak_S) : Prop := ∀ (Q : ak_S → Prop) (X : Nat → ak_S → Prop), ak_W0 e 1 d 298 ρ 0 [some (am_r 110), none, none] [] hm' (ak_qv Q X) → ak_W0 e 1 d 298 ρ 0 [some (am_r 110), none, none] [] hm (ak_qv Q X)
def ak_cgo (e : ak_X3) (d u ρ1 ρ2 j : Nat) (ar : List am_V) (hc hc' : ak_S) : Prop := ∀ (Q : ak_S → Prop) (X : Nat → ak_S → Prop), Q hc' → ak_MV e 0 d (ak_rc u ρ1 ρ2) j ar hc Q X
section TRN
variable {e : ak_X3} {d u ρ1 ρ2 n m : Nat} {ρ : List Nat} {hc hc' hc2 hm hm' hm2 : ak_S}
theorem ak_turns_trans (w : ak_turns e d u ρ1 ρ2 n hc hc') (w2 : ak_turns e d u ρ1 ρ2 m hc' hc2) : ak_turns e d u ρ1 ρ2 (n + m) hc hc2 := fun K X x hx q =>
  w K X x (by omega) (w2 K X (x + n) (by omega) (by rw [Nat.add_assoc]; exact q))
theorem ak_turns_0 : ak_turns e d u ρ1 ρ2 0 hc hc := fun _ _ _ _ q => q
theorem ak_mgo_trans (w : ak_mgo e d ρ hm hm') (w2 : ak_mgo e d ρ hm' hm2) : ak_mgo e d ρ hm hm2 := fun Q X q => w Q X (w2 Q X q)
theorem ak_mgo_0 : ak_mgo e d ρ hm hm := fun _ _ q => q
theorem ak_turn1 (hu : u = 0 ∨ u = 1) (ho : hc.1 32 11 < 0) (g : ak_cgo e d u ρ1 ρ2 72 [am_r 32] hc hc') (h0 : hc'.1 77 10 = 0) : ak_turns e d u ρ1 ρ2 1 hc hc' := by
  intro K X x hx q
  refine am_k70_71 hu ⟨fun z => absurd z (by omega), fun _ => ⟨fun z => absurd z (by omega), fun _ => g _ _ ⟨fun _ => ?_, fun z => absurd h0 z⟩⟩⟩
  rw [show am_w32 ((x : Int) + 1) = ((x + 1 : Nat) : Int) from by rw [ak_w _ (by omega)]; omega]
  exact q
theorem ak_turnU (hu : u = 0 ∨ u = 1) (ho : hc.1 32 11 < 0) (g : ak_cgo e d u ρ1 ρ2 72 [am_r 32] hc hc') (h0 : hc'.1 77 10 ≠ 0) (g2 : ak_cgo e d u ρ1 ρ2 100 [am_r 32] hc' hc2) : ak_turns e d u ρ1 ρ2 1 hc hc2 := by
  intro K X x hx q
  refine am_k70_71 hu ⟨fun z => absurd z (by omega), fun _ => ⟨fun z => absurd z (by omega), fun _ => g _ _ ⟨fun z => absurd z h0, fun _ => g2 _ _ ?_⟩⟩⟩
  rw [show am_w32 ((x : Int) + 1) = ((x + 1 : Nat) : Int) from by rw [ak_w _ (by omega)]; omega]
  exact q
/-- a job taken -/
def ak_poM (h : ak_S) (n : Nat) : ak_S := (am_up h.1 110 132 (n : Int), h.2)
variable {k nd : Int}
theorem ak_job (hj : hm.1 110 132 = ((n + 1 : Nat) : Int)) (hn : n < 370000) (h105 : hm.1 110 105 < 0) (hk : hm.1 201 n = k) (hd : hm.1 202 n = nd)
    (w1 : k = 1 → ak_goV e d ρ 282 [am_r 110, am_i nd] (ak_poM hm n) hm') (w2 : k = 2 → ak_goV e d ρ 291 [am_r 110, am_i nd] (ak_poM hm n) hm') (w3 : k = 3 → ak_goV e d ρ 283 [am_r 110, am_i nd] (ak_poM hm n) hm') (w4 : k = 4 → ak_goV e d ρ 293 [am_r 110, am_i nd] (ak_poM hm n) hm') (hk4 : 1 ≤ k ∧ k ≤ 4) : ak_mgo e d ρ hm hm' := by
  intro Q X q
  refine am_k298_0 ?_
  rw [hj, show am_w32 (((n + 1 : Nat) : Int) - 1) = (n : Int) from by rw [ak_w _ (by omega)]; omega, ak_natn, hk, hd]
  have hb : 0 ≤ (n : Int) ∧ (n : Int) < 370000 := by omega
  refine ⟨fun z => absurd z (by omega), fun _ => ⟨fun z => absurd z (by omega), fun _ => ⟨hb, hb, trivial, fun z => absurd z (by omega), fun z => w1 (by omega) _ _ q, fun z => w2 (by omega) _ _ q, fun z => w3 (by omega) _ _ q, fun z => w4 (by omega) _ _ q, fun z => absurd z (by omega), fun z => absurd z (by omega), fun z => absurd z (by omega), fun z => absurd z (by omega), fun z => absurd z (by omega), fun z => absurd z (by omega), trivial⟩⟩⟩
end TRN
/-- the order at hand taken -/
def ak_atC (h : ak_S) (t pc : Nat) : ak_S := (am_up (am_up h.1 32 12 (t : Int)) 72 t ((pc + 1 : Nat) : Int), h.2)
section ORD
variable {e : ak_X3} {d ρ1 ρ2 o y a : Nat} {c : ak_Cx} {g g' : ak_Gh} {fs : List ak_Fr} {f : ak_Fr} {V : List Nat} {hc hm hc' hm' : ak_S} {Q : ak_S → Prop} {X : Nat → ak_S → Prop} {v : Int}
/-- sizes -/
theorem ak_tx_z (w : ak_tx c.s c.us c.n c.m c.Mt c.b c.z c.h0 c.m0) : c.h0.1 (ak_T c.s + 1) 2 = (c.z 1 : Int) ∧ c.z 1 ≤ 9030 ∧ c.m0.1 121 c.us = (c.z 2 : Int) ∧ c.z 2 ≤ 6000 ∧ c.m0.1 127 c.us = (c.z 7 : Int) ∧ c.h0.1 (ak_T c.s + 1) 11 = (c.z 4 : Int) ∧ c.z 4 ≤ 1000 ∧ c.Mt ≤ 40 := by
  obtain ⟨w1, w2, w3, w4⟩ := w
  have h2 := ak_st_le w1.1 w1.1.1.1
  have h3 := w1.2.1.1.2.2.2.1
  obtain ⟨p1, p2, p3, p4, p5, p6, p7, p8, p9, p10, p11, p12, p13, p14⟩ := w1
  obtain ⟨x1, x2, x3, x4⟩ := w3
  exact ⟨p8, by omega, p9, by omega, p6.2.2.1, p11, by omega, p7.1⟩
/-- an order of the text, now -/
theorem ak_cd (sp : ak_SPP c g V hc hm) (h : ak_mC c.s c.h0 (ak_T c.s + 2) o = v) (hv : 0 ≤ v) : hc.1 (ak_T c.s + 2) o = v ∧ (o : Int) < hc.1 (ak_T c.s + 1) 2 ∧ o < 9030 ∧ hc.1 (ak_T c.s + 3) o = ak_mC c.s c.h0 (ak_T c.s + 3) o := by
  obtain ⟨⟨hs, tx⟩, ag, _⟩ := sp
  obtain ⟨z1, z2, _⟩ := ak_tx_z tx
  have e1 : hc.1 (ak_T c.s + 2) o = c.h0.1 (ak_T c.s + 2) o := (ag.1 _ _ (by omega) (by omega)).1
  have e2 : hc.1 (ak_T c.s + 3) o = c.h0.1 (ak_T c.s + 3) o := (ag.1 _ _ (by omega) (by omega)).1
  have e3 : hc.1 (ak_T c.s + 1) 2 = c.h0.1 (ak_T c.s + 1) 2 := (ag.1 _ _ (by omega) (by omega)).1
  unfold ak_mC at h ⊢
  by_cases g1 : c.h0.1 (ak_T c.s + 1) 2 ≤ (o : Int)
  · rw [if_pos ⟨rfl, g1⟩] at h
    omega
  · rw [if_neg (fun z => g1 z.2)] at h
    rw [if_neg (fun z => absurd z.1 (by omega)), e1, e2, e3]
    exact ⟨h, by omega, by omega, rfl⟩
theorem ak_cx (sp : ak_SPP c g V hc hm) {q k : Nat} (hq : ak_T c.s ≤ q ∧ q ≤ ak_T c.s + 20 ∧ q ≠ ak_T c.s + 2) : hc.1 q k = ak_mC c.s c.h0 q k := by
  obtain ⟨⟨hs, tx⟩, ag, _⟩ := sp
  unfold ak_mC
  rw [if_neg (fun z => hq.2.2 z.1)]
  exact (ag.1 _ _ (by omega) (by omega)).1
/-- a node of the text, now -/
theorem ak_nde {q0 : Nat} (sp : ak_SPP c g V hc hm) (hq : 114 ≤ q0 ∧ q0 ≤ 120) (h : ak_mM c.us c.m0 q0 y ≠ -77) : y < 18000 ∧ ∀ q, 114 ≤ q → q ≤ 120 → hm.1 q y = ak_mM c.us c.m0 q y := by
  obtain ⟨⟨hs, tx⟩, ag, _, _, _, _, al, _⟩ := sp
  obtain ⟨_, _, z3, z4, _⟩ := ak_tx_z tx
  have us2 := al.1
  unfold ak_mM at h ⊢
  by_cases g1 : 9000 * c.us ≤ y ∧ (y : Int) < 9000 * c.us + c.m0.1 121 c.us
  · refine ⟨by omega, fun q a b => ?_⟩
    rw [if_neg (fun z => z.2 g1)]
    exact ag.2 q y (by unfold ak_tmI; omega)
  · rw [if_pos ⟨hq, g1⟩] at h
    exact absurd rfl h
theorem ak_o72 (w : ak_RN c g (f :: fs) hc hm) (ho : ak_mC c.s c.h0 (ak_T c.s + 2) f.pc = (o : Int))
    (w78 : o ≤ 7 → ak_MV e 0 d (ak_rc c.s ρ1 ρ2) 78 [am_r 32, am_i (o : Int), am_i (ak_mC c.s c.h0 (ak_T c.s + 3) f.pc)] (ak_atC hc fs.length f.pc) Q (fun _ _ => False))
    (w80 : 7 < o → o ≤ 16 → ak_MV e 0 d (ak_rc c.s ρ1 ρ2) 80 [am_r 32, am_i (o : Int)] (ak_atC hc fs.length f.pc) Q (fun _ _ => False))
    (w85 : 16 < o → o ≤ 20 → ak_MV e 0 d (ak_rc c.s ρ1 ρ2) 85 [am_r 32, am_i (o : Int), am_i (ak_mC c.s c.h0 (ak_T c.s + 3) f.pc)] (ak_atC hc fs.length f.pc) Q (fun _ _ => False))
    (w95 : 20 < o → o ≤ 25 → ak_MV e 0 d (ak_rc c.s ρ1 ρ2) 95 [am_r 32, am_i (o : Int), am_i (ak_mC c.s c.h0 (ak_T c.s + 3) f.pc)] (ak_atC hc fs.length f.pc) Q (fun _ _ => False))
    (w96 : 25 < o → o ≤ 31 → ak_MV e 0 d (ak_rc c.s ρ1 ρ2) 96 [am_r 32, am_i (o : Int), am_i (ak_mC c.s c.h0 (ak_T c.s + 3) f.pc)] (ak_atC hc fs.length f.pc) Q (fun _ _ => False))
    (w97 : 31 < o → ak_MV e 0 d (ak_rc c.s ρ1 ρ2) 97 [am_r 32, am_i (o : Int), am_i (ak_mC c.s c.h0 (ak_T c.s + 3) f.pc)] (ak_atC hc fs.length f.pc) Q (fun _ _ => False)) : ak_MV e 0 (d + 1) (ak_rc c.s ρ1 ρ2) 72 [am_r 32] hc Q X := by
  obtain ⟨sp, ⟨⟨d1, d2, d3, d4, d5⟩, _, ⟨⟨a1, a2, a3, a4, _⟩, _⟩, _⟩, _⟩ := w
  obtain ⟨b1, b2, b3, b4⟩ := ak_cd sp ho (by omega)
  have hl : (f :: fs).length = fs.length + 1 := rfl
  refine ak_MV_of (Nat.le_of_ble_eq_true rfl) (am_k72_0 sp.1.1 ?_)
  rw [d2, hl, show am_w32 (((fs.length + 1 : Nat) : Int) - 1) = (fs.length : Int) from by rw [ak_w _ (by omega)]; omega, ak_natn, a4, ak_natn, b1, b4, ak_wj (show f.pc < 1000000 by omega)]
  have hb : 0 ≤ (fs.length : Int) ∧ (fs.length : Int) < 60 := by omega
  have hp : 0 ≤ (f.pc : Int) ∧ (f.pc : Int) < 9600 := by omega
  refine ⟨fun z => absurd z (by omega), fun _ => ⟨hb, fun z => absurd z (by omega), fun _ => ⟨hb, fun _ => ⟨hb, hb, hp, hp, fun g1 => ⟨fun g2 => ⟨fun g3 => ⟨fun g4 => ⟨fun g5 => w97 (by omega), fun g5 => w96 (by omega) (by omega)⟩, fun g4 => w95 (by omega) (by omega)⟩, fun g3 => w85 (by omega) (by omega)⟩, fun g2 => w80 (by omega) (by omega)⟩, fun g1 => w78 (by omega)⟩, fun z => absurd z (by omega)⟩⟩⟩
/-- the static cells -/
def ak_stC (q : Nat) : Prop := q ≠ 32 ∧ ¬ (69 ≤ q ∧ q ≤ 86) ∧ q ≠ 108 ∧ q ≠ 109
def ak_stM (q k : Nat) : Prop := ¬ (q = 110 ∧ (k = 102 ∨ k = 103 ∨ k = 105 ∨ k = 127 ∨ (132 ≤ k ∧ k ≤ 139))) ∧ q ≠ 176 ∧ q ≠ 183 ∧ ¬ (199 ≤ q ∧ q ≤ 210)
theorem ak_SP_fr (w : ak_SPP c g V hc hm) (fc : ∀ q k, ak_stC q → hc'.1 q k = hc.1 q k ∧ hc'.2.1 q k = hc.2.1 q k) (fm : ∀ q k, ak_stM q k → hm'.1 q k = hm.1 q k ∧ hm'.2.1 q k = hm.2.1 q k) : ak_SPP c g V hc' hm' := by
  obtain ⟨⟨hs, tx⟩, ag, ⟨hO, wd⟩, st, rm, jn, al, k1, k2⟩ := w
  have hT := ak_T_bd hs
  have C : ∀ q k, ak_stC q → hc'.1 q k = hc.1 q k := fun q k a => (fc q k a).1
  have M : ∀ q k, ak_stM q k → hm'.1 q k = hm.1 q k := fun q k a => (fm q k a).1
  unfold ak_stC at fc C
  unfold ak_stM at fm M
  refine ⟨⟨hs, tx⟩, ak_agT_fr ag (fun q k g1 g2 => fc q k (by omega)) (fun q k g1 => M q k (by unfold ak_tmI at g1; omega)), ⟨hO, ak_WD_fr wd ⟨fun q k h => C q k (by omega), fun k => (fc 36 k (by omega)).2⟩ ⟨fun q k h => M q k (by omega), fun k => (fm 146 k (by omega)).2⟩⟩, ak_ST_fr st (fun q k h => C q k (by omega)) (fun k => (fc 46 k (by omega)).2) (fun q k h => M q k (by omega)), ?_, ak_jn_fr jn (fun q k g1 g2 => fc q k (by omega)) (fun q k h => fm q k (by omega)), ?_, (C 1 8 (by omega)).trans k1, (M 110 4 (by omega)).trans k2.1, (M 110 0 (by omega)).trans k2.2⟩
  · obtain ⟨rf, rr, rb⟩ := rm
    refine ⟨ak_fre_fr rf (fun q k h => C q k (by omega)) (fun k => M 173 k (by omega)), fun r h => ?_, ak_bks_fr rb (fun q k a b => C q k (by omega)) (fun q k h => M q k (by omega))⟩
    have R := rr r h
    unfold ak_rom at R ⊢
    obtain ⟨r1, r2, r3, r4, r5, r6, r7⟩ := R
    refine ⟨ak_rmW_fr r1 (fun k => ⟨C 50 k (by omega), (fc 51 k (by omega)).2⟩) (fun k => ⟨M 184 k (by omega), (fm 185 k (by omega)).2⟩), ?_, ?_, ?_, ?_, ?_, ?_⟩
    · rw [C 53 _ (by omega), M 178 _ (by omega)]; exact r2
    · rw [C 52 _ (by omega), M 177 _ (by omega)]
      rcases r3 with r3 | ⟨r', a1, a2, a3, a4, a5, a6, a7, a8⟩
      · exact Or.inl r3
      · exact Or.inr ⟨r', a1, a2, a3, a4, a5, a6, (C 55 _ (by omega)).trans a7, (C 55 _ (by omega)).trans a8⟩
    · rw [C 55 _ (by omega), M 174 _ (by omega)]; exact r4
    · rw [C 55 _ (by omega), C 54 _ (by omega), M 175 _ (by omega)]; exact r5
    · rw [M 179 _ (by omega)]; exact r6
    · rw [C 56 _ (by omega), C 58 _ (by omega), C 59 _ (by omega), (fc 57 _ (by omega)).2, M 180 _ (by omega), M 182 _ (by omega), (fm 181 _ (by omega)).2]; exact r7
  · obtain ⟨wy, hw⟩ := al.2.2.2.2.1
    exact ak_all_fr al (fun q k h => C q k (by omega)) (fun k => (fc 5 k (by omega)).2) (fun q k h => M q k (by omega)) ⟨wy, ak_wyS_fr2 hw (fun q k h => M q k (by omega))⟩
/-- what grows goes on -/
def ak_gle (g g' : ak_Gh) (V : List Nat) : Prop := g.O ≤ g'.O ∧ g.B ≤ g'.B ∧ ∀ y, y ∈ V → y ∈ g'.Us ∧ g'.φ y = g.φ y ∧ g'.hr y = g.hr y ∧ g'.mt y = g.mt y ∧ g'.lv y = g.lv y
/-- cells of frames, guards, values that stay; t: the topmost frame; a: values that stay -/
def ak_kpC (g : ak_Gh) (V : List Nat) (t a : Nat) (hc hc' : ak_S) : Prop := (∀ q k, (69 ≤ q ∧ q ≤ 76 ∧ ¬ (q = 72 ∧ k = t)) ∨ (q = 77 ∧ k = 4) ∨ (78 ≤ q ∧ q ≤ 86) ∨ (q = 108 ∧ k < a) → hc'.1 q k = hc.1 q k) ∧ (∀ q k, (78 ≤ q ∧ q ≤ 86) ∨ (q = 109 ∧ k < a) → hc'.2.1 q k = hc.2.1 q k) ∧
  ∀ y, y ∈ V → hc'.1 54 y = hc.1 54 y ∧ hc'.1 56 (g.hr y) = hc.1 56 (g.hr y) ∧ hc'.2.1 57 (g.hr y) = hc.2.1 57 (g.hr y)
def ak_kpM (j v : Nat) (hm hm' : ak_S) : Prop := (∀ q k, (q = 110 ∧ (k = 102 ∨ k = 103 ∨ k = 139)) ∨ q = 176 ∨ q = 183 ∨ (201 ≤ q ∧ q ≤ 204 ∧ k < j) ∨ (205 ≤ q ∧ q ≤ 210) ∨ (q = 199 ∧ k < v) → hm'.1 q k = hm.1 q k) ∧ ∀ q k, (205 ≤ q ∧ q ≤ 210) ∨ (q = 200 ∧ k < v) → hm'.2.1 q k = hm.2.1 q k
theorem ak_nH_fr : ∀ {fs : List ak_Fr}, (∀ k, k < fs.length → hc'.1 76 k = hc.1 76 k) → ak_nH hc' fs = ak_nH hc fs := by
  intro fs
  induction fs with
  | nil => intro _; rfl
  | cons f fs ih =>
    intro h
    show ak_nH hc' fs + hc'.1 76 fs.length = ak_nH hc fs + hc.1 76 fs.length
    rw [ih (fun k hk => h k (by rw [List.length_cons]; omega)), h fs.length (by rw [List.length_cons]; omega)]
/-- the topmost frame has gone on, no guard was opened or left -/
theorem ak_RN_top {pc' : Nat} {js' : List ak_Jb} {vs' : List (Bool × Int × Int)} {j v : Nat} (w : ak_RN c g (f :: fs) hc hm) (sp : ak_SPP c g' (ak_rms (f :: fs)) hc' hm') (gl : ak_gle g g' (ak_rms (f :: fs))) (kc : ak_kpC g (ak_rms (f :: fs)) fs.length a hc hc') (km : ak_kpM j v hm hm')
    (ha : ak_nV fs ≤ a) (hj : ak_nJ fs + 1 ≤ j) (hv : ak_nT fs ≤ v) (c72 : hc'.1 72 fs.length = (pc' : Int))
    (h10 : hc'.1 32 10 = ((ak_nV fs + vs'.length : Nat) : Int)) (h11 : hc'.1 32 11 = -1) (h77 : hc'.1 77 10 = 0) (m105 : hm'.1 110 105 = -1) (m127 : hm'.1 110 127 = ((ak_nT fs + ak_tc vs' : Nat) : Int)) (m132 : hm'.1 110 132 = ((ak_nJ fs + 1 + js'.length : Nat) : Int))
    (eg : ak_gc js' = ak_gc f.js) (ek : ak_kc js' = ak_kc f.js) (J : ak_JS g'.O g'.B g'.φ (f.r :: ak_rms fs) fs.length (ak_nJ fs + 1) (ak_nG fs) (ak_nK fs) (ak_nT fs) hc' hm' js')
    (V : ak_VS g'.O g'.B (hc'.1 56 (g'.hr f.r)) (hc'.2.1 57 (g'.hr f.r)) (ak_nV fs) (ak_nT fs) hc' hm' vs') (K : ak_K (ak_mC c.s c.h0) (ak_mM c.us c.m0) (ak_T c.s) c.us (g.mt f.r + 40 * g.lv f.r) js' pc' (vs'.map (fun v => v.1)))
    (L : js'.length ≤ 6165 ∧ vs'.length ≤ 151) : ak_RN c g' (⟨f.r, pc', js', vs'⟩ :: fs) hc' hm' := by
  obtain ⟨_, ⟨⟨d1, d2, d3, d4, d5⟩, ⟨e1, e2, e3, e4, e5⟩, lf, lo⟩, _⟩ := w
  obtain ⟨gO, gB, gU⟩ := gl
  obtain ⟨k1, k2, k3⟩ := kc
  obtain ⟨n1, n2⟩ := km
  have hf := gU f.r (by simp [ak_rms])
  have hs : ∀ y, y ∈ ak_rms fs → y ∈ ak_rms (f :: fs) := fun y h => by simp [ak_rms] at h ⊢; exact Or.inr h
  have hφ : ∀ y, y ∈ f.r :: ak_rms fs → g'.φ y = g.φ y := fun y h => (gU y h).2.1
  have nG : ak_nG (f :: fs) = ak_nG fs + ak_gc f.js := rfl
  have nG' : ak_nG (⟨f.r, pc', js', vs'⟩ :: fs) = ak_nG fs + ak_gc js' := rfl
  have nK : ak_nK (f :: fs) = ak_nK fs + ak_kc f.js := rfl
  have nK' : ak_nK (⟨f.r, pc', js', vs'⟩ :: fs) = ak_nK fs + ak_kc js' := rfl
  have lG := lf.2.2.2.2.2.2.2
  refine ⟨sp, ⟨⟨d1, (k1 69 7 (by omega)).trans d2, ?_, ?_, h10⟩, ⟨?_, (n1 110 103 (by omega)).trans e2, m127, m132, ?_⟩, ?_, ?_⟩, h11, h77, m105⟩
  · rw [k1 69 8 (by omega), d3]
    exact (ak_nH_fr (fs := f :: fs) (fun k _ => k1 76 k (by omega))).symm
  · rw [k1 77 4 (by omega), d4, nG, nG', eg]
  · rw [n1 110 102 (by omega), e1]
    exact congrArg Int.ofNat hf.2.1.symm
  · rw [n1 110 139 (by omega), e5, nK, nK', ek]
  · refine ak_F1_up lf hφ hf.1 ⟨hf.2.2.2.1, hf.2.2.2.2⟩ (fun q a b g1 _ => k1 q _ (by omega)) c72 ?_ (k3 f.r (by simp [ak_rms])).1 (n1 176 _ (by omega)) (fun q a b => n1 q _ (by omega)) J V K ⟨L.1, by rw [List.length_nil]; omega, by omega⟩
    rw [k1 73 _ (by omega), n1 183 _ (by omega)]
    exact lf.1.2.2.2.2.1
  · exact ak_LO_fr gO gB lo (fun y hy => ⟨(gU y (hs y hy)).1, (gU y (hs y hy)).2.1, (gU y (hs y hy)).2.2.1, (gU y (hs y hy)).2.2.2.1, (gU y (hs y hy)).2.2.2.2, (k3 y (hs y hy)).1, (k3 y (hs y hy)).2.1, (k3 y (hs y hy)).2.2, n1 183 _ (by omega), n1 176 _ (by omega)⟩) (fun q k a b h => k1 q k (by omega)) (fun q k a b h => ⟨k1 q k (by omega), k2 q k (by omega)⟩) (fun k h => ⟨k1 108 k (by omega), k2 109 k (by omega)⟩) (fun q k a b h => n1 q k (by omega)) (fun q k a b h => ⟨n1 q k (by omega), n2 q k (by omega)⟩) (fun k h => ⟨n1 199 k (by omega), n2 200 k (by omega)⟩)
end ORD
