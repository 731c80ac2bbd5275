/-! the run: an object, a block is made -/
section LEAFN
variable {e : ak_X3} {d ρ1 ρ2 P W y l : Nat} {ρ : List Nat} {c : ak_Cx} {g g' : ak_Gh} {fs fs' : List ak_Fr} {f : ak_Fr} {V : List Nat} {hc hm hc' hm' hcS hmS hcX : ak_S} {j : ak_Jb} {r js : List ak_Jb} {aw : List Bool} {s x kd : Int}
def ak_gO (g : ak_Gh) (t : Nat) : ak_Gh := ⟨g.S, g.O + 1, g.B, g.T, ak_sh g.sh g.O t, g.E, g.Et, g.G, g.φ, g.hr, g.lv, g.mt, g.Us, g.FR⟩
def ak_gB (g : ak_Gh) : ak_Gh := ⟨g.S, g.O, g.B + 1, g.T, g.sh, g.E, g.Et, g.G, g.φ, g.hr, g.lv, g.mt, g.Us, g.FR⟩
theorem ak_gO_le {t : Nat} (h : ak_gle g g V) : ak_gle g (ak_gO g t) V := ⟨Nat.le_succ _, Nat.le_refl _, h.2.2⟩
theorem ak_gB_le (h : ak_gle g g V) : ak_gle g (ak_gB g) V := ⟨Nat.le_refl _, Nat.le_succ _, h.2.2⟩
theorem ak_RM_fr2 {s us O B Mt : Nat} {φ hr lv mt : Nat → Nat} {Us FR : List Nat} {h0 m0 : ak_S} (w : ak_RM s us O B Mt φ hr lv mt Us FR V h0 m0 hc hm) (fc : ∀ q k, 49 ≤ q → q ≤ 62 → hc'.1 q k = hc.1 q k ∧ hc'.2.1 q k = hc.2.1 q k) (fm : ∀ q k, (q = 110 ∧ k = 57) ∨ q = 150 ∨ q = 151 ∨ (173 ≤ q ∧ q ≤ 185 ∧ q ≠ 176 ∧ q ≠ 183) → hm'.1 q k = hm.1 q k ∧ hm'.2.1 q k = hm.2.1 q k) : ak_RM s us O B Mt φ hr lv mt Us FR V h0 m0 hc' hm' := by
  obtain ⟨rf, rr, rb⟩ := w
  have C : ∀ q k, 49 ≤ q → q ≤ 62 → hc'.1 q k = hc.1 q k := fun q k a b => (fc q k a b).1
  have M : ∀ q k, (q = 110 ∧ k = 57) ∨ q = 150 ∨ q = 151 ∨ (173 ≤ q ∧ q ≤ 185 ∧ q ≠ 176 ∧ q ≠ 183) → hm'.1 q k = hm.1 q k := fun q k a => (fm q k a).1
  refine ⟨ak_fre_fr rf (fun q k h => C q k (by omega) (by omega)) (fun k => M 173 k (by omega)), fun r h => ?_, ak_bks_fr rb (fun q k a b => C q k a b) (fun q k h => M q k (by omega))⟩
  have R := rr r h
  unfold ak_rom at R ⊢
  obtain ⟨r1, r2, r3, r4, r5, r6, r7⟩ := R
  refine ⟨ak_rmW_fr r1 (fun k => ⟨C 50 k (by omega) (by omega), (fc 51 k (by omega) (by omega)).2⟩) (fun k => ⟨M 184 k (by omega), (fm 185 k (by omega)).2⟩), ?_, ?_, ?_, ?_, ?_, ?_⟩
  · rw [C 53 _ (by omega) (by omega), M 178 _ (by omega)]; exact r2
  · rw [C 52 _ (by omega) (by omega), M 177 _ (by omega)]
    rcases r3 with r3 | ⟨r', a1, a2, a3, a4, a5, a6, a7, a8⟩
    · exact Or.inl r3
    · exact Or.inr ⟨r', a1, a2, a3, a4, a5, a6, (C 55 _ (by omega) (by omega)).trans a7, (C 55 _ (by omega) (by omega)).trans a8⟩
  · rw [C 55 _ (by omega) (by omega), M 174 _ (by omega)]; exact r4
  · rw [C 55 _ (by omega) (by omega), C 54 _ (by omega) (by omega), M 175 _ (by omega)]; exact r5
  · rw [M 179 _ (by omega)]; exact r6
  · rw [C 56 _ (by omega) (by omega), C 58 _ (by omega) (by omega), C 59 _ (by omega) (by omega), (fc 57 _ (by omega) (by omega)).2, M 180 _ (by omega), M 182 _ (by omega), (fm 181 _ (by omega)).2]; exact r7
/-- one object more -/
theorem ak_SP_obj {t : Nat} (sp : ak_SPP c g V hc hm) (ht : t < g.S) (wd : ak_WD g.S (g.O + 1) g.B c.Mt g.T (ak_sh g.sh g.O t) hc' hm') (fc : ∀ q k, ak_stC q → ¬ (33 ≤ q ∧ q ≤ 36) → hc'.1 q k = hc.1 q k ∧ hc'.2.1 q k = hc.2.1 q k) (fm : ∀ q k, ak_stM q k → ¬ (q = 110 ∧ k = 46) → ¬ (141 ≤ q ∧ q ≤ 146) → hm'.1 q k = hm.1 q k ∧ hm'.2.1 q k = hm.2.1 q k) : ak_SPP c (ak_gO g t) V hc' hm' := by
  obtain ⟨⟨hs, tx⟩, ag, ⟨hO, w0⟩, st, ⟨rf, rr, rb⟩, jn, al, k1, k2⟩ := sp
  have hT := ak_T_bd hs
  unfold ak_stC at fc
  unfold ak_stM at fm
  obtain ⟨wy, hwy⟩ := al.2.2.2.2.1
  refine ⟨⟨hs, tx⟩, ak_agT_fr ag (fun q k a b => fc q k (by omega) (by omega)) (fun q k a => (fm q k (by unfold ak_tmI at a; omega) (by unfold ak_tmI at a; omega) (by unfold ak_tmI at a; omega)).1), ⟨by show 4 ≤ g.O + 1; omega, wd⟩, ak_ST_fr (ak_ST_more st w0.1 (fun i hi => (w0.2.2.2.2 i hi).1) ht) (fun q k h => (fc q k (by omega) (by omega)).1) (fun k => (fc 46 k (by omega) (by omega)).2) (fun q k h => (fm q k (by omega) (by omega) (by omega)).1),
    ak_RM_fr2 ⟨rf, fun r h => ak_rom_mono (rr r h) (Nat.le_succ _) (Nat.le_refl _), rb⟩ (fun q k a b => fc q k (by omega) (by omega)) (fun q k h => fm q k (by omega) (by omega) (by omega)), ak_jn_fr jn (fun q k a b => fc q k (by omega) (by omega)) (fun q k h => fm q k (by omega) (by omega) (by omega)),
    ak_all_fr al (fun q k h => (fc q k (by omega) (by omega)).1) (fun k => (fc 5 k (by omega) (by omega)).2) (fun q k h => (fm q k (by omega) (by omega) (by omega)).1) ⟨wy, ak_wyS_fr2 hwy (fun q k h => (fm q k (by omega) (by omega) (by omega)).1)⟩, (fc 1 8 (by omega) (by omega)).1.trans k1, (fm 110 4 (by omega) (by omega) (by omega)).1.trans k2.1, (fm 110 0 (by omega) (by omega) (by omega)).1.trans k2.2⟩
theorem ak_WD_B (w : ak_WD g.S g.O g.B c.Mt g.T g.sh hc hm) : ak_WD g.S g.O (g.B + 1) c.Mt g.T g.sh hc hm := by
  obtain ⟨w1, w2, w3, w4, w5⟩ := w
  refine ⟨w1, w2, w3, w4, fun o ho => ?_⟩
  obtain ⟨v1, v2, v3, v4, v5⟩ := w5 o ho
  refine ⟨v1, v2, v3, v4, fun k x hx => ?_⟩
  obtain ⟨h0, h1⟩ := v5 k x hx
  exact ⟨fun h => ⟨(h0 h).1, (h0 h).2.1, ak_vok_mono (h0 h).2.2 (Nat.le_refl _) (Nat.le_succ _)⟩, h1⟩
def ak_nbM (h : ak_S) (b : Nat) (l : Int) (f' : Nat) : ak_S := (am_up (am_up (am_up (am_up h.1 150 b l) 151 b (f' : Int)) 174 f' 1) 110 57 ((b + 1 : Nat) : Int), h.2)
theorem ak_nbM_o {h : ak_S} {b f' q k : Nat} {l : Int} (a1 : ¬ ((q = 150 ∨ q = 151) ∧ k = b)) (a2 : ¬ (q = 174 ∧ k = f')) (a3 : ¬ (q = 110 ∧ k = 57)) : (ak_nbM h b l f').1 q k = h.1 q k := by
  unfold ak_nbM
  exact (ak_up_out1 a3).trans ((ak_up_out a2).trans ((ak_up_out (by omega)).trans (ak_up_out (by omega))))
theorem ak_nbM_v {h : ak_S} {b f' : Nat} {l : Int} : (ak_nbM h b l f').1 150 b = l ∧ (ak_nbM h b l f').1 151 b = (f' : Int) ∧ (ak_nbM h b l f').1 174 f' = 1 ∧ (ak_nbM h b l f').1 110 57 = ((b + 1 : Nat) : Int) := by
  unfold ak_nbM
  simp [am_up]
theorem ak_nbC_o {h : ak_S} {b r' q k : Nat} (a1 : ¬ ((q = 61 ∨ q = 62) ∧ k = b)) (a2 : ¬ (q = 55 ∧ k = r')) (a3 : ¬ (q = 49 ∧ k = 14)) : (ak_nbC h b l r').1 q k = h.1 q k := by
  unfold ak_nbC
  exact (ak_up_out1 a3).trans ((ak_up_out a2).trans ((ak_up_out (by omega)).trans (ak_up_out (by omega))))
theorem ak_nbC_v {h : ak_S} {b r' : Nat} : (ak_nbC h b l r').1 61 b = (l : Int) ∧ (ak_nbC h b l r').1 62 b = (r' : Int) ∧ (ak_nbC h b l r').1 55 r' = 1 ∧ (ak_nbC h b l r').1 49 14 = ((b + 1 : Nat) : Int) := by
  unfold ak_nbC
  simp [am_up]
/-- one block more -/
theorem ak_SP_blk {r' : Nat} (sp : ak_SPP c g V hc hm) (hr : r' ∈ g.Us) (hV : r' ∈ V) (hB : g.B < 500) (hl : l < 60) (bk : ak_blk c.s c.us g.lv g.mt c.h0 c.m0 l r') : ak_SPP c (ak_gB g) V (ak_nbC hc g.B l r') (ak_nbM hm g.B (l : Int) (g.φ r')) := by
  obtain ⟨⟨hs, tx⟩, ag, ⟨hO, w0⟩, st, ⟨rf, rr, ⟨b1, b2, b3, b4, b5⟩⟩, jn, al, k1, k2⟩ := sp
  have hT := ak_T_bd hs
  have C := fun q k a1 a2 a3 => ak_nbC_o (h := hc) (b := g.B) (l := l) (r' := r') (q := q) (k := k) a1 a2 a3
  obtain ⟨c1, c2, c3, c4⟩ := ak_nbC_v (h := hc) (b := g.B) (l := l) (r' := r')
  have CJ : (ak_nbC hc g.B l r').2 = hc.2 := rfl
  generalize ak_nbC hc g.B l r' = hcX at C c1 c2 c3 c4 CJ
  have M := fun q k a1 a2 a3 => ak_nbM_o (h := hm) (b := g.B) (l := (l : Int)) (f' := g.φ r') (q := q) (k := k) a1 a2 a3
  obtain ⟨m1, m2, m3, m4⟩ := ak_nbM_v (h := hm) (b := g.B) (l := (l : Int)) (f' := g.φ r')
  have MJ : (ak_nbM hm g.B (l : Int) (g.φ r')).2 = hm.2 := rfl
  generalize ak_nbM hm g.B (l : Int) (g.φ r') = hmX at M m1 m2 m3 m4 MJ
  obtain ⟨wy, hwy⟩ := al.2.2.2.2.1
  have inj := rf.2.2.2.2.2.1
  have s55 : ∀ y, hc.1 55 y = 1 → hcX.1 55 y = 1 := fun y h => by
    by_cases hy : y = r'
    · rw [hy]; exact c3
    · rw [C 55 y (by omega) (by omega) (by omega)]; exact h
  refine ⟨⟨hs, tx⟩, ak_agT_fr ag (fun q k a b => ⟨C q k (by omega) (by omega) (by omega), by rw [CJ]⟩) (fun q k a => M q k (by unfold ak_tmI at a; omega) (by unfold ak_tmI at a; omega) (by unfold ak_tmI at a; omega)), ⟨hO, ak_WD_fr (ak_WD_B w0) ⟨fun q k h => C q k (by omega) (by omega) (by omega), fun k => by rw [CJ]⟩ ⟨fun q k h => M q k (by omega) (by omega) (by omega), fun k => by rw [MJ]⟩⟩, ak_ST_fr st (fun q k h => C q k (by omega) (by omega) (by omega)) (fun k => by rw [CJ]) (fun q k h => M q k (by omega) (by omega) (by omega)),
    ⟨ak_fre_fr rf (fun q k h => C q k (by omega) (by omega) (by omega)) (fun k => M 173 k (by omega) (by omega) (by omega)), fun y hy => ?_, ⟨c4, m4, by show g.B + 1 ≤ 500; omega, fun i hi => ?_, fun y hy h => ?_⟩⟩, ak_jn_fr jn (fun q k a b => ⟨C q k (by omega) (by omega) (by omega), by rw [CJ]⟩) (fun q k h => ⟨M q k (by omega) (by omega) (by omega), by rw [MJ]⟩),
    ak_all_fr al (fun q k h => C q k (by omega) (by omega) (by omega)) (fun k => by rw [CJ]) (fun q k h => M q k (by omega) (by omega) (by omega)) ⟨wy, ak_wyS_fr2 hwy (fun q k h => M q k (by omega) (by omega) (by omega))⟩, (C 1 8 (by omega) (by omega) (by omega)).trans k1, (M 110 4 (by omega) (by omega) (by omega)).trans k2.1, (M 110 0 (by omega) (by omega) (by omega)).trans k2.2⟩
  · have R := ak_rom_mono (B' := g.B + 1) (rr y hy) (Nat.le_refl _) (Nat.le_succ _)
    unfold ak_rom at R ⊢
    obtain ⟨r1, r2, r3, r4, r5, r6, r7⟩ := R
    refine ⟨ak_rmW_fr r1 (fun k => ⟨C 50 k (by omega) (by omega) (by omega), by rw [CJ]⟩) (fun k => ⟨M 184 k (by omega) (by omega) (by omega), by rw [MJ]⟩), ?_, ?_, ?_, ?_, ?_, ?_⟩
    · rw [C 53 _ (by omega) (by omega) (by omega), M 178 _ (by omega) (by omega) (by omega)]; exact r2
    · rw [C 52 _ (by omega) (by omega) (by omega), M 177 _ (by omega) (by omega) (by omega)]
      rcases r3 with r3 | ⟨r', a1, a2, a3, a4, a5, a6, a7, a8⟩
      · exact Or.inl r3
      · exact Or.inr ⟨r', a1, a2, a3, a4, a5, a6, s55 _ a7, s55 _ a8⟩
    · by_cases hyr : y = r'
      · rw [hyr]; exact ⟨c3.trans m3.symm, Or.inr c3⟩
      · have : (ak_gB g).φ y ≠ g.φ r' := fun h => hyr (inj y r' hy hr h)
        rw [C 55 y (by omega) (by omega) (by omega), M 174 _ (by omega) (by omega) (by omega)]; exact r4
    · rw [C 54 _ (by omega) (by omega) (by omega), M 175 _ (by omega) (by omega) (by omega)]
      rcases r5 with ⟨a1, a2, a3⟩ | ⟨a1, a2, a3, a4⟩
      · exact Or.inl ⟨a1, a2, a3⟩
      · exact Or.inr ⟨a1, a2, a3, s55 _ a4⟩
    · rw [M 179 _ (by omega) (by omega) (by omega)]; exact r6
    · rw [C 56 _ (by omega) (by omega) (by omega), C 58 _ (by omega) (by omega) (by omega), C 59 _ (by omega) (by omega) (by omega), CJ, M 180 _ (by omega) (by omega) (by omega), M 182 _ (by omega) (by omega) (by omega), MJ]; exact r7
  · by_cases hib : i = g.B
    · rw [hib]
      exact ⟨l, r', c1, m1, hl, c2, hr, m2, c3, bk⟩
    · have hi2 : i < g.B := by
        have : i < g.B + 1 := hi
        omega
      obtain ⟨l', r2, z1, z2, z3, z4, z5, z6, z7, z8⟩ := b4 i hi2
      exact ⟨l', r2, (C 61 i (by omega) (by omega) (by omega)).trans z1, (M 150 i (by omega) (by omega) (by omega)).trans z2, z3, (C 62 i (by omega) (by omega) (by omega)).trans z4, z5, (M 151 i (by omega) (by omega) (by omega)).trans z6, s55 _ z7, z8⟩
  · by_cases hyr : y = r'
    · exact ⟨g.B, Nat.lt_succ_self _, by rw [hyr]; exact c2⟩
    · rw [C 55 y (by omega) (by omega) (by omega)] at h
      obtain ⟨i, z1, z2⟩ := b5 y hy h
      exact ⟨i, Nat.lt_succ_of_lt z1, (C 62 i (by omega) (by omega) (by omega)).trans z2⟩
theorem ak_lf_new (w : ak_RN c g (f :: fs) hc hm) (fj : f.js = j :: r) (hk : j.k = 1) (hy : j.n = (y : Int)) (h114 : ak_mM c.us c.m0 114 y = 5) (h2 : ak_mC c.s c.h0 (ak_T c.s + 2) f.pc = 4) (cnt : hm.1 110 109 < 1000000000) (K : ak_K (ak_mC c.s c.h0) (ak_mM c.us c.m0) (ak_T c.s) c.us (g.mt f.r + 40 * g.lv f.r) r (f.pc + 1) (true :: f.vs.map (fun v => v.1))) (len : f.vs.length + 1 ≤ 151) : ak_OUT e d ρ1 ρ2 ρ c (ak_Phi hm (f :: fs)) W hc hm := by
  obtain ⟨hs, l60, fU, f5, φ5, sp0, F, L, J, V, K0, ⟨l1, l2, l3⟩, ⟨d2, d3, d4, d5, o1, o2⟩, ⟨e1, e2, e3, e4, e5, o3⟩, ⟨x1, x2, x3, x4⟩, _⟩ := ak_tp w
  obtain ⟨t1, t2, t3, t4, t5, t6⟩ := ak_tj w fj
  obtain ⟨b1, b2, b3, b4⟩ := ak_cd sp0 h2 (by decide)
  obtain ⟨y18, yq⟩ := ak_nde (q0 := 114) sp0 (by omega) (by rw [h114]; decide)
  have yO : ∀ q, 114 ≤ q → q ≤ 120 → (ak_poM hm (ak_nJ fs + 1 + r.length)).1 q y = ak_mM c.us c.m0 q y := fun q a b => (ak_poM_o (by omega)).trans (yq q a b)
  have yb : 0 ≤ (y : Int) ∧ (y : Int) < 18000 := by omega
  have tb : 0 ≤ (fs.length : Int) ∧ (fs.length : Int) < 60 := by omega
  have spA : ak_SPP c g (ak_rms (f :: fs)) (ak_atC hc fs.length f.pc) (ak_poM hm (ak_nJ fs + 1 + r.length)) := ak_SP_fr sp0 (fun q k h => ⟨ak_atC_o (by unfold ak_stC at h; omega) (by unfold ak_stC at h; omega), rfl⟩) (fun q k h => ⟨ak_poM_o (fun z => h.1 ⟨z.1, by omega⟩), rfl⟩)
  have hO := spA.2.2.1.2.2.2.2.1
  have gC0 : ∀ (Q : ak_S → Prop) (X : Nat → ak_S → Prop), ak_MI e 0 (d + 38) (ak_rc c.s ρ1 ρ2) 149 [am_r 33] (ak_atC hc fs.length f.pc) (fun v h8 => ak_MV e 0 (d + 38) (ak_rc c.s ρ1 ρ2) 79 [am_r 32, am_i 2, am_i v] h8 (fun h10 => Q h10) (fun _ _ => False)) (fun _ _ => False) → ak_MV e 0 (d + 40) (ak_rc c.s ρ1 ρ2) 72 [am_r 32] hc Q X := fun Q X q => by
    refine ak_o72 (d := d + 39) (o := 4) w h2 (fun _ => ?_) (fun z => absurd z (by decide)) (fun z => absurd z (by decide)) (fun z => absurd z (by decide)) (fun z => absurd z (by decide)) (fun z => absurd z (by decide))
    refine ak_MV_of (Nat.le_of_ble_eq_true rfl) (am_k78_0 hs ?_)
    rw [ak_atC_12, ak_natn]
    exact ⟨tb, trivial, fun z => absurd z (by omega), fun z => absurd z (by omega), fun z => absurd z (by omega), fun z => absurd z (by omega), fun z => absurd z (by omega), fun _ => q, fun z => absurd z (by omega), fun z => absurd z (by omega), trivial⟩
  by_cases h200 : g.O < 200
  · have C : ∀ q k, ¬ (q = 34 ∧ k = g.O) → ¬ (q = 33 ∧ k = 0) → (ak_nwC (ak_atC hc fs.length f.pc) g.O).1 q k = (ak_atC hc fs.length f.pc).1 q k := fun q k a b => (ak_up_out1 b).trans (ak_up_out a)
    have CJ : (ak_nwC (ak_atC hc fs.length f.pc) g.O).2 = hc.2 := rfl
    have M : ∀ q k, ¬ (q = 110 ∧ k = 46) → ¬ ((q = 141 ∨ q = 142) ∧ k = g.O) → (ak_nwM (ak_poM hm (ak_nJ fs + 1 + r.length)) g.O).1 q k = (ak_poM hm (ak_nJ fs + 1 + r.length)).1 q k := fun q k a b => (ak_up_out1 a).trans ((ak_up_out (by omega)).trans (ak_up_out (by omega)))
    have MJ : (ak_nwM (ak_poM hm (ak_nJ fs + 1 + r.length)) g.O).2 = hm.2 := rfl
    have spN : ak_SPP c (ak_gO g 0) (ak_rms (f :: fs)) (ak_nwC (ak_atC hc fs.length f.pc) g.O) (ak_nwM (ak_poM hm (ak_nJ fs + 1 + r.length)) g.O) :=
      ak_SP_obj spA (Nat.lt_of_lt_of_le Nat.zero_lt_one spA.2.2.1.2.1.1.1) (ak_WD_new spA.2.2.1.2 h200) (fun q k a b => ⟨C q k (by omega) (by omega), rfl⟩) (fun q k a b b2 => ⟨M q k b (by omega), rfl⟩)
    have goC : ∀ (Q : ak_S → Prop) (X : Nat → ak_S → Prop), Q (ak_psC (ak_nwC (ak_atC hc fs.length f.pc) g.O) (ak_nV fs + f.vs.length) 2 (g.O : Int)) → ak_MV e 0 (d + 40) (ak_rc c.s ρ1 ρ2) 72 [am_r 32] hc Q X := fun Q X q =>
      gC0 Q X (am_s149 (d := d + 37) (O := g.O) hO.2.1 (fun _ => ak_MV_of (Nat.le_of_ble_eq_true rfl) (am_k79_0 hs ⟨fun _ => am_s73 (d := d + 36) hs ((C _ _ (by omega) (by omega)).trans ((ak_atC_o (by omega) (by omega)).trans d5)) (by omega) q, fun z => absurd z (by omega)⟩)) (fun z => absurd z (by omega)))
    have goM : ak_goV e (d + 40) ρ 282 [am_r 110, am_i j.n] (ak_poM hm (ak_nJ fs + 1 + r.length)) (ak_psM (ak_nwM (ak_poM hm (ak_nJ fs + 1 + r.length)) g.O) (ak_nT fs + ak_tc f.vs) 2 (g.O : Int)) := fun Q X q => by
      rw [hy]
      refine ak_MV_of (Nat.le_of_ble_eq_true rfl) (am_k282_0 ?_)
      rw [ak_natn, yO 114 (by omega) (by omega), h114, spA.2.2.1.2.2.2.2.1.2.2]
      refine ⟨yb, trivial, fun z => absurd z (by omega), fun z => absurd z (by omega), fun z => absurd z (by omega), fun z => absurd z (by omega), fun z => absurd z (by omega), fun _ => ?_, fun z => absurd z (by omega), fun z => absurd z (by omega), fun z => absurd z (by omega), fun z => absurd z (by omega), fun z => absurd z (by omega), fun z => absurd z (by omega), fun z => absurd z (by omega), fun z => absurd z (by omega), trivial⟩
      exact ⟨fun _ => am_s245 (d := d + 38) spA.2.2.1.2.2.2.2.1.2.2 h200 (am_s265 (d := d + 38) ((M _ _ (by omega) (by omega)).trans ((ak_poM_o (by omega)).trans e3)) (by omega) q), fun z => absurd z (by omega)⟩
    generalize ak_nwC (ak_atC hc fs.length f.pc) g.O = hcN at C CJ spN goC
    generalize ak_nwM (ak_poM hm (ak_nJ fs + 1 + r.length)) g.O = hmN at M MJ spN goM
    have CA : ∀ q k, ¬ (q = 34 ∧ k = g.O) → ¬ (q = 33 ∧ k = 0) → ¬ (q = 32 ∧ k = 12) → ¬ (q = 72 ∧ k = fs.length) → hcN.1 q k = hc.1 q k := fun q k a b a' b' => (C q k a b).trans (ak_atC_o a' b')
    have MA : ∀ q k, ¬ (q = 110 ∧ (k = 46 ∨ k = 132)) → ¬ ((q = 141 ∨ q = 142) ∧ k = g.O) → hmN.1 q k = hm.1 q k := fun q k a b => (M q k (by omega) b).trans (ak_poM_o (by omega))
    obtain ⟨p1, p2, p3⟩ := ak_psM_v (hm := hmN) (n := ak_nT fs + ak_tc f.vs) (s := 2) (x := (g.O : Int))
    exact ak_lfv (g' := ak_gO g 0) (hcS := hcN) w fj hk (by omega) (ak_SP_fr spN (fun _ _ _ => ⟨rfl, rfl⟩) (fun q k h => ⟨ak_psM_o (fun z => h.2.2.2 (by omega)) (fun z => h.1 ⟨z.1, by omega⟩), ak_psM_J (fun z => h.2.2.2 (by omega))⟩)) (ak_gO_le (ak_gle_refl w))
      ⟨fun q k h => CA q k (by omega) (by omega) (by omega) (by omega), fun q k h => by rw [CJ], fun y hy => ⟨CA _ _ (by omega) (by omega) (by omega) (by omega), CA _ _ (by omega) (by omega) (by omega) (by omega), by rw [CJ]⟩⟩ ⟨fun q k h => (ak_psM_o (by omega) (by omega)).trans (MA q k (by omega) (by omega)), fun q k h => (ak_psM_J (by omega)).trans (by rw [MJ])⟩
      ((C _ _ (by omega) (by omega)).trans ak_atC_72) ((CA _ _ (by omega) (by omega) (by omega) (by omega)).trans o1) ((CA _ _ (by omega) (by omega) (by omega) (by omega)).trans o2) ((ak_psM_o (by omega) (by omega)).trans ((MA _ _ (by omega) (by omega)).trans o3)) p3 ((ak_psM_o (by omega) (by omega)).trans ((M _ _ (by omega) (by omega)).trans ak_poM_v)) ⟨p1, p2⟩
      ⟨by decide, fun _ => ⟨by omega, by show (g.O : Int) < ((g.O + 1 : Nat) : Int); omega⟩, fun h => absurd h (by decide), by omega, by omega⟩ K len goC goM (fun q hq => (ak_psM_o (by omega) (by omega)).trans (MA _ _ (by omega) (by omega))) (by rw [CJ])
  · have e200 : g.O = 200 := by
      have := hO
      have := spA.2.2.1.2.2.2.2.1.1
      omega
    refine ak_OUTf (kd := 8) (s := 0) (x := 0) w fj (by omega) (by omega) spA (ak_gle_refl w) ⟨fun q k h => ak_atC_o (by omega) (by omega), fun _ _ _ => rfl, fun y hy => ⟨ak_atC_o (by omega) (by omega), ak_atC_o (by omega) (by omega), rfl⟩⟩ ak_kpM_po ((ak_atC_o (by omega) (by omega)).trans o1) ak_atC_12 ak_poM_v ((ak_poM_o (by omega)).trans o3) ⟨by decide, fun h => absurd h (by decide), fun h => absurd h (by decide), by decide, by decide⟩ cnt (by rw [ak_poM_o (by omega)]; exact Int.le_refl _) (fun q a b => ak_poM_o (by omega)) rfl
      (fun hcX h Q X q => gC0 Q X (am_s149 (d := d + 37) (O := g.O) hO.2.1 (fun z => absurd z (by omega)) (fun _ => ak_MV_of (Nat.le_of_ble_eq_true rfl) (am_k79_0 hs ⟨fun z => absurd z (by decide), fun _ => ak_MV_deep (show d + 30 ≤ d + 37 by omega) (h _ _ q)⟩)))) (fun hm' h => ?_)
    refine ak_job t1 (by omega) (by omega) t3 t4 (fun _ Q X q => ?_) (fun z => absurd z (by omega)) (fun z => absurd z (by omega)) (fun z => absurd z (by omega)) (by omega)
    rw [hy]
    refine ak_MV_of (Nat.le_of_ble_eq_true rfl) (am_k282_0 ?_)
    rw [ak_natn, yO 114 (by omega) (by omega), h114, spA.2.2.1.2.2.2.2.1.2.2]
    refine ⟨yb, trivial, fun z => absurd z (by omega), fun z => absurd z (by omega), fun z => absurd z (by omega), fun z => absurd z (by omega), fun z => absurd z (by omega), fun _ => ?_, fun z => absurd z (by omega), fun z => absurd z (by omega), fun z => absurd z (by omega), fun z => absurd z (by omega), fun z => absurd z (by omega), fun z => absurd z (by omega), fun z => absurd z (by omega), fun z => absurd z (by omega), trivial⟩
    exact ⟨fun z => absurd (show ((g.O : Nat) : Int) = 200 by omega) z, fun _ => ak_MV_of (Nat.le_of_ble_eq_true rfl) (am_k270_0 (ak_MV_deep (show d + 25 ≤ d + 38 by omega) (h _ _ q)))⟩
theorem ak_lf_lit (w : ak_RN c g (f :: fs) hc hm) (fj : f.js = j :: r) (hk : j.k = 1) (hy : j.n = (y : Int)) (h114 : ak_mM c.us c.m0 114 y = 13) (h2 : ak_mC c.s c.h0 (ak_T c.s + 2) f.pc = 7) (h3 : ak_mC c.s c.h0 (ak_T c.s + 3) f.pc = (l : Int)) (h5 : ak_mM c.us c.m0 115 y = (l : Int)) (hl : l < 60) (bk : ak_blk c.s c.us g.lv g.mt c.h0 c.m0 l f.r) (cnt : hm.1 110 109 < 1000000000) (K : ak_K (ak_mC c.s c.h0) (ak_mM c.us c.m0) (ak_T c.s) c.us (g.mt f.r + 40 * g.lv f.r) r (f.pc + 1) (true :: f.vs.map (fun v => v.1))) (len : f.vs.length + 1 ≤ 151) : ak_OUT e d ρ1 ρ2 ρ c (ak_Phi hm (f :: fs)) W hc hm := by
  obtain ⟨hs, l60, fU, f5, φ5, sp0, F, L, J, V, K0, ⟨l1, l2, l3⟩, ⟨d2, d3, d4, d5, o1, o2⟩, ⟨e1, e2, e3, e4, e5, o3⟩, ⟨x1, x2, x3, x4⟩, _⟩ := ak_tp w
  obtain ⟨t1, t2, t3, t4, t5, t6⟩ := ak_tj w fj
  obtain ⟨b1, b2, b3, b4⟩ := ak_cd sp0 h2 (by decide)
  obtain ⟨y18, yq⟩ := ak_nde (q0 := 114) sp0 (by omega) (by rw [h114]; decide)
  have yO : ∀ q, 114 ≤ q → q ≤ 120 → (ak_poM hm (ak_nJ fs + 1 + r.length)).1 q y = ak_mM c.us c.m0 q y := fun q a b => (ak_poM_o (by omega)).trans (yq q a b)
  have yb : 0 ≤ (y : Int) ∧ (y : Int) < 18000 := by omega
  have tb : 0 ≤ (fs.length : Int) ∧ (fs.length : Int) < 60 := by omega
  have spA : ak_SPP c g (ak_rms (f :: fs)) (ak_atC hc fs.length f.pc) (ak_poM hm (ak_nJ fs + 1 + r.length)) := ak_SP_fr sp0 (fun q k h => ⟨ak_atC_o (by unfold ak_stC at h; omega) (by unfold ak_stC at h; omega), rfl⟩) (fun q k h => ⟨ak_poM_o (fun z => h.1 ⟨z.1, by omega⟩), rfl⟩)
  obtain ⟨hb1, hb2, hb3, _⟩ := spA.2.2.2.2.1.2.2
  have gC0 : ∀ (Q : ak_S → Prop) (X : Nat → ak_S → Prop), ak_MI e 0 (d + 38) (ak_rc c.s ρ1 ρ2) 143 [am_r 49, am_i (l : Int), am_i (f.r : Int)] (ak_atC hc fs.length f.pc) (fun v h1 => ak_MV e 0 (d + 38) (ak_rc c.s ρ1 ρ2) 79 [am_r 32, am_i 3, am_i v] h1 (fun h10 => Q h10) (fun _ _ => False)) (fun _ _ => False) → ak_MV e 0 (d + 40) (ak_rc c.s ρ1 ρ2) 72 [am_r 32] hc Q X := fun Q X q => by
    refine ak_o72 (d := d + 39) (o := 7) w h2 (fun _ => ?_) (fun z => absurd z (by decide)) (fun z => absurd z (by decide)) (fun z => absurd z (by decide)) (fun z => absurd z (by decide)) (fun z => absurd z (by decide))
    refine ak_MV_of (Nat.le_of_ble_eq_true rfl) (am_k78_0 hs ?_)
    rw [ak_atC_12, ak_natn, ak_atC_o (q := 70) (by omega) (by omega), F.1.2.1, h3]
    exact ⟨tb, trivial, fun _ => q, fun z => absurd z (by omega), fun z => absurd z (by omega), fun z => absurd z (by omega), fun z => absurd z (by omega), fun z => absurd z (by omega), fun z => absurd z (by omega), fun z => absurd z (by omega), trivial⟩
  by_cases h500 : g.B < 500
  · have goC : ∀ (Q : ak_S → Prop) (X : Nat → ak_S → Prop), Q (ak_psC (ak_nbC (ak_atC hc fs.length f.pc) g.B l f.r) (ak_nV fs + f.vs.length) 3 (g.B : Int)) → ak_MV e 0 (d + 40) (ak_rc c.s ρ1 ρ2) 72 [am_r 32] hc Q X := fun Q X q =>
      gC0 Q X (am_s143 (d := d + 37) hb1 f5 (fun _ => ak_MV_of (Nat.le_of_ble_eq_true rfl) (am_k79_0 hs ⟨fun _ => am_s73 (d := d + 36) hs ((ak_nbC_o (by omega) (by omega) (by omega)).trans ((ak_atC_o (by omega) (by omega)).trans d5)) (by omega) q, fun z => absurd z (by omega)⟩)) (fun z => absurd z (by omega)))
    have spN := ak_SP_blk spA fU (by simp [ak_rms]) h500 hl bk
    -- the other puts the value before it counts the block
    have goM : ak_goV e (d + 40) ρ 282 [am_r 110, am_i j.n] (ak_poM hm (ak_nJ fs + 1 + r.length)) (am_up (ak_psM (am_up (am_up (am_up (ak_poM hm (ak_nJ fs + 1 + r.length)).1 150 g.B (l : Int)) 151 g.B (g.φ f.r : Int)) 174 (g.φ f.r) 1, (ak_poM hm (ak_nJ fs + 1 + r.length)).2) (ak_nT fs + ak_tc f.vs) 3 (g.B : Int)).1 110 57 ((g.B + 1 : Nat) : Int), (ak_psM (am_up (am_up (am_up (ak_poM hm (ak_nJ fs + 1 + r.length)).1 150 g.B (l : Int)) 151 g.B (g.φ f.r : Int)) 174 (g.φ f.r) 1, (ak_poM hm (ak_nJ fs + 1 + r.length)).2) (ak_nT fs + ak_tc f.vs) 3 (g.B : Int)).2) := fun Q X q => by
      rw [hy]
      refine ak_MV_of (Nat.le_of_ble_eq_true rfl) (am_k282_0 ?_)
      rw [ak_natn, yO 114 (by omega) (by omega), h114, hb2, yO 115 (by omega) (by omega), h5, ak_natn, ak_poM_o (q := 110) (k := 102) (by omega), e1, ak_natn]
      refine ⟨yb, trivial, fun z => absurd z (by omega), fun z => absurd z (by omega), fun z => absurd z (by omega), fun z => absurd z (by omega), fun z => absurd z (by omega), fun z => absurd z (by omega), fun z => absurd z (by omega), fun z => absurd z (by omega), fun z => absurd z (by omega), fun z => absurd z (by omega), fun z => absurd z (by omega), fun z => absurd z (by omega), fun z => absurd z (by omega), fun _ => ?_, trivial⟩
      refine ⟨fun _ => ⟨yb, by omega, by omega, ⟨by omega, Or.inr rfl⟩, am_s265 (d := d + 38) ((ak_up_out1 (by omega)).trans ((ak_up_out (by omega)).trans ((ak_up_out (by omega)).trans ((ak_poM_o (by omega)).trans e3)))) (by omega) ?_⟩, fun z => absurd z (by omega)⟩
      rw [show (ak_psM (am_up (am_up (am_up (ak_poM hm (ak_nJ fs + 1 + r.length)).1 150 g.B (l : Int)) 151 g.B (g.φ f.r : Int)) 174 (g.φ f.r) 1, (ak_poM hm (ak_nJ fs + 1 + r.length)).2) (ak_nT fs + ak_tc f.vs) 3 (g.B : Int)).1 110 57 = (g.B : Int) from (ak_psM_o (by omega) (by omega)).trans ((ak_up_out1 (by omega)).trans ((ak_up_out (by omega)).trans ((ak_up_out (by omega)).trans hb2))), ak_wj (show g.B < 1000000 by omega)]
      exact q
    have PO : ∀ q k, ¬ (q = 199 ∧ k = ak_nT fs + ak_tc f.vs) → ¬ (q = 110 ∧ k = 127) → ((am_up (ak_psM (am_up (am_up (am_up (ak_poM hm (ak_nJ fs + 1 + r.length)).1 150 g.B (l : Int)) 151 g.B (g.φ f.r : Int)) 174 (g.φ f.r) 1, (ak_poM hm (ak_nJ fs + 1 + r.length)).2) (ak_nT fs + ak_tc f.vs) 3 (g.B : Int)).1 110 57 ((g.B + 1 : Nat) : Int), (ak_psM (am_up (am_up (am_up (ak_poM hm (ak_nJ fs + 1 + r.length)).1 150 g.B (l : Int)) 151 g.B (g.φ f.r : Int)) 174 (g.φ f.r) 1, (ak_poM hm (ak_nJ fs + 1 + r.length)).2) (ak_nT fs + ak_tc f.vs) 3 (g.B : Int)).2) : ak_S).1 q k = (ak_nbM (ak_poM hm (ak_nJ fs + 1 + r.length)) g.B (l : Int) (g.φ f.r)).1 q k := fun q k a b => ak_up_cg (ak_psM_o a b)
    have Pv : ((am_up (ak_psM (am_up (am_up (am_up (ak_poM hm (ak_nJ fs + 1 + r.length)).1 150 g.B (l : Int)) 151 g.B (g.φ f.r : Int)) 174 (g.φ f.r) 1, (ak_poM hm (ak_nJ fs + 1 + r.length)).2) (ak_nT fs + ak_tc f.vs) 3 (g.B : Int)).1 110 57 ((g.B + 1 : Nat) : Int), (ak_psM (am_up (am_up (am_up (ak_poM hm (ak_nJ fs + 1 + r.length)).1 150 g.B (l : Int)) 151 g.B (g.φ f.r : Int)) 174 (g.φ f.r) 1, (ak_poM hm (ak_nJ fs + 1 + r.length)).2) (ak_nT fs + ak_tc f.vs) 3 (g.B : Int)).2) : ak_S).1 199 (ak_nT fs + ak_tc f.vs) = 3 := (ak_up_out1 (by omega)).trans ak_psM_v.1
    have P127 : ((am_up (ak_psM (am_up (am_up (am_up (ak_poM hm (ak_nJ fs + 1 + r.length)).1 150 g.B (l : Int)) 151 g.B (g.φ f.r : Int)) 174 (g.φ f.r) 1, (ak_poM hm (ak_nJ fs + 1 + r.length)).2) (ak_nT fs + ak_tc f.vs) 3 (g.B : Int)).1 110 57 ((g.B + 1 : Nat) : Int), (ak_psM (am_up (am_up (am_up (ak_poM hm (ak_nJ fs + 1 + r.length)).1 150 g.B (l : Int)) 151 g.B (g.φ f.r : Int)) 174 (g.φ f.r) 1, (ak_poM hm (ak_nJ fs + 1 + r.length)).2) (ak_nT fs + ak_tc f.vs) 3 (g.B : Int)).2) : ak_S).1 110 127 = ((ak_nT fs + ak_tc f.vs + 1 : Nat) : Int) := (ak_up_out1 (by omega)).trans ak_psM_v.2.2
    have PJ : ((am_up (ak_psM (am_up (am_up (am_up (ak_poM hm (ak_nJ fs + 1 + r.length)).1 150 g.B (l : Int)) 151 g.B (g.φ f.r : Int)) 174 (g.φ f.r) 1, (ak_poM hm (ak_nJ fs + 1 + r.length)).2) (ak_nT fs + ak_tc f.vs) 3 (g.B : Int)).1 110 57 ((g.B + 1 : Nat) : Int), (ak_psM (am_up (am_up (am_up (ak_poM hm (ak_nJ fs + 1 + r.length)).1 150 g.B (l : Int)) 151 g.B (g.φ f.r : Int)) 174 (g.φ f.r) 1, (ak_poM hm (ak_nJ fs + 1 + r.length)).2) (ak_nT fs + ak_tc f.vs) 3 (g.B : Int)).2) : ak_S).2.1 = am_up hm.2.1 200 (ak_nT fs + ak_tc f.vs) (g.B : Int) := rfl
    generalize ((am_up (ak_psM (am_up (am_up (am_up (ak_poM hm (ak_nJ fs + 1 + r.length)).1 150 g.B (l : Int)) 151 g.B (g.φ f.r : Int)) 174 (g.φ f.r) 1, (ak_poM hm (ak_nJ fs + 1 + r.length)).2) (ak_nT fs + ak_tc f.vs) 3 (g.B : Int)).1 110 57 ((g.B + 1 : Nat) : Int), (ak_psM (am_up (am_up (am_up (ak_poM hm (ak_nJ fs + 1 + r.length)).1 150 g.B (l : Int)) 151 g.B (g.φ f.r : Int)) 174 (g.φ f.r) 1, (ak_poM hm (ak_nJ fs + 1 + r.length)).2) (ak_nT fs + ak_tc f.vs) 3 (g.B : Int)).2) : ak_S) = hmF at goM PO Pv P127 PJ
    have MA : ∀ q k, ¬ (q = 199 ∧ k = ak_nT fs + ak_tc f.vs) → ¬ (q = 110 ∧ (k = 57 ∨ k = 127 ∨ k = 132)) → q ≠ 150 → q ≠ 151 → q ≠ 174 → hmF.1 q k = hm.1 q k := fun q k a b b1 b2 b3 => (PO q k a (by omega)).trans ((ak_nbM_o (by omega) (by omega) (by omega)).trans (ak_poM_o (by omega)))
    have CA : ∀ q k, q ≠ 61 → q ≠ 62 → q ≠ 55 → q ≠ 49 → ¬ (q = 32 ∧ k = 12) → ¬ (q = 72 ∧ k = fs.length) → (ak_nbC (ak_atC hc fs.length f.pc) g.B l f.r).1 q k = hc.1 q k := fun q k a b c' d' a' b' => (ak_nbC_o (by omega) (by omega) (by omega)).trans (ak_atC_o a' b')
    exact ak_lfv (g' := ak_gB g) (hcS := ak_nbC (ak_atC hc fs.length f.pc) g.B l f.r) w fj hk (by omega) (ak_SP_fr spN (fun _ _ _ => ⟨rfl, rfl⟩) (fun q k h => ⟨PO q k (fun z => h.2.2.2 (by omega)) (fun z => h.1 ⟨z.1, by omega⟩), by rw [PJ, ak_up_out (fun z => h.2.2.2 (by omega))]; rfl⟩)) (ak_gB_le (ak_gle_refl w))
      ⟨fun q k h => CA q k (by omega) (by omega) (by omega) (by omega) (by omega) (by omega), fun q k h => rfl, fun y hy => ⟨CA _ _ (by omega) (by omega) (by omega) (by omega) (by omega) (by omega), CA _ _ (by omega) (by omega) (by omega) (by omega) (by omega) (by omega), rfl⟩⟩ ⟨fun q k h => MA q k (by omega) (by omega) (by omega) (by omega) (by omega), fun q k h => by rw [PJ, ak_up_out (by omega)]⟩
      ((ak_nbC_o (by omega) (by omega) (by omega)).trans ak_atC_72) ((CA _ _ (by omega) (by omega) (by omega) (by omega) (by omega) (by omega)).trans o1) ((CA _ _ (by omega) (by omega) (by omega) (by omega) (by omega) (by omega)).trans o2) ((MA _ _ (by omega) (by omega) (by omega) (by omega) (by omega)).trans o3) P127 ((PO _ _ (by omega) (by omega)).trans ((ak_nbM_o (by omega) (by omega) (by omega)).trans ak_poM_v)) ⟨Pv, by rw [PJ, ak_up_at]⟩
      ⟨by decide, fun h => absurd h (by decide), fun _ => ⟨by omega, by show (g.B : Int) < ((g.B + 1 : Nat) : Int); omega⟩, by omega, by omega⟩ K len goC goM (fun q hq => MA _ _ (by omega) (by omega) (by omega) (by omega) (by omega)) rfl
  · have e500 : g.B = 500 := by omega
    refine ak_OUTf (kd := 8) (s := 0) (x := 0) w fj (by omega) (by omega) spA (ak_gle_refl w) ⟨fun q k h => ak_atC_o (by omega) (by omega), fun _ _ _ => rfl, fun y hy => ⟨ak_atC_o (by omega) (by omega), ak_atC_o (by omega) (by omega), rfl⟩⟩ ak_kpM_po ((ak_atC_o (by omega) (by omega)).trans o1) ak_atC_12 ak_poM_v ((ak_poM_o (by omega)).trans o3) ⟨by decide, fun h => absurd h (by decide), fun h => absurd h (by decide), by decide, by decide⟩ cnt (by rw [ak_poM_o (by omega)]; exact Int.le_refl _) (fun q a b => ak_poM_o (by omega)) rfl
      (fun hcX h Q X q => gC0 Q X (am_s143 (d := d + 37) hb1 f5 (fun z => absurd z (by omega)) (fun _ => ak_MV_of (Nat.le_of_ble_eq_true rfl) (am_k79_0 hs ⟨fun z => absurd z (by decide), fun _ => ak_MV_deep (show d + 30 ≤ d + 37 by omega) (h _ _ q)⟩)))) (fun hm' h => ?_)
    refine ak_job t1 (by omega) (by omega) t3 t4 (fun _ Q X q => ?_) (fun z => absurd z (by omega)) (fun z => absurd z (by omega)) (fun z => absurd z (by omega)) (by omega)
    rw [hy]
    refine ak_MV_of (Nat.le_of_ble_eq_true rfl) (am_k282_0 ?_)
    rw [ak_natn, yO 114 (by omega) (by omega), h114, hb2]
    refine ⟨yb, trivial, fun z => absurd z (by omega), fun z => absurd z (by omega), fun z => absurd z (by omega), fun z => absurd z (by omega), fun z => absurd z (by omega), fun z => absurd z (by omega), fun z => absurd z (by omega), fun z => absurd z (by omega), fun z => absurd z (by omega), fun z => absurd z (by omega), fun z => absurd z (by omega), fun z => absurd z (by omega), fun z => absurd z (by omega), fun _ => ?_, trivial⟩
    exact ⟨fun z => absurd (show ((g.B : Nat) : Int) = 500 by omega) z, fun _ => ak_MV_of (Nat.le_of_ble_eq_true rfl) (am_k270_0 (ak_MV_deep (show d + 25 ≤ d + 38 by omega) (h _ _ q)))⟩
end LEAFN
