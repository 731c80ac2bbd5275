/-! the run: a slot is set -/
section SET1
variable {e : ak_X3} {d ρ1 ρ2 W y n N T0 o i k A a u us S O B Mt : Nat} {ρ : List Nat} {c : ak_Cx} {g : ak_Gh} {V : List Nat} {fs : List ak_Fr} {f : ak_Fr} {T : Nat → List (Int × Int)} {sh : Nat → Nat} {h h1 h2 hP hc hm hc' hm' hcS hmS : ak_S} {j : ak_Jb} {r : List ak_Jb} {v v2 : Bool × Int × Int} {s w nm pl ho x : Int} {X : Nat → ak_S → Prop}
theorem ak_WD_put (w : ak_WD S O B Mt T sh hc hm) (hi : i < O) (hk : k < 12) (hx0 : ∀ x, (T (sh i))[k]? = some x → x.1 = 0) (vk : ak_vok O B s x) (C : ∀ q n, (q = 33 ∧ (n = 0 ∨ n = 4)) ∨ (34 ≤ q ∧ q ≤ 40) → ¬ (q = 35 ∧ n = 12 * i + k) → hc'.1 q n = hc.1 q n) (CJ : ∀ n, n ≠ 12 * i + k → hc'.2.1 36 n = hc.2.1 36 n) (c35 : hc'.1 35 (12 * i + k) = s) (c36 : hc'.2.1 36 (12 * i + k) = x)
    (M : ∀ q n, (q = 110 ∧ (n = 46 ∨ n = 53)) ∨ (141 ≤ q ∧ q ≤ 149) → ¬ (q = 145 ∧ n = 12 * i + k) → hm'.1 q n = hm.1 q n) (MJ : ∀ n, n ≠ 12 * i + k → hm'.2.1 146 n = hm.2.1 146 n) (m145 : hm'.1 145 (12 * i + k) = s) (m146 : hm'.2.1 146 (12 * i + k) = x) : ak_WD S O B Mt T sh hc' hm' := by
  obtain ⟨w1, w2, w3, ⟨w4, w5, w6⟩, w7⟩ := w
  refine ⟨w1, ak_tC_out w2 (fun q k hq => C q k (by omega) (by omega)), ⟨(M _ _ (by omega) (by omega)).trans w3.1, fun s hs => ⟨(M _ _ (by omega) (by omega)).trans (w3.2 s hs).1, fun k x hx => ?_⟩⟩, ⟨w4, (C _ _ (by omega) (by omega)).trans w5, (M _ _ (by omega) (by omega)).trans w6⟩, fun o ho => ?_⟩
  · rw [M 148 _ (by omega) (by omega), M 149 _ (by omega) (by omega)]
    exact (w3.2 s hs).2 k x hx
  · obtain ⟨v1, v2, v3, v4, v5⟩ := w7 o ho
    refine ⟨v1, (C _ _ (by omega) (by omega)).trans v2, (M _ _ (by omega) (by omega)).trans v3, ⟨(M _ _ (by omega) (by omega)).trans v4.1, fun k x hx => ?_⟩, fun k' x' hx => ?_⟩
    · rw [M 143 _ (by omega) (by omega), M 144 _ (by omega) (by omega)]
      exact v4.2 k x hx
    · have l12 := (w1.2.1 (sh o) v1).1
      have hk' : k' < (T (sh o)).length := by
        rcases Nat.lt_or_ge k' (T (sh o)).length with g | g
        · exact g
        · rw [List.getElem?_eq_none g] at hx; cases hx
      by_cases he : 12 * o + k' = 12 * i + k
      · have e1 : o = i := by omega
        have e2 : k' = k := by omega
        subst e1; subst e2
        have := hx0 x' hx
        rw [c35, c36, m145, m146]
        exact ⟨fun _ => ⟨rfl, rfl, vk⟩, fun z => by omega⟩
      · rw [C 35 _ (by omega) (by omega), CJ _ he, M 145 _ (by omega) (by omega), MJ _ he]
        exact v5 k' x' hx
theorem ak_SP_put (sp : ak_SPP c g V hc hm) (wd : ak_WD g.S g.O g.B c.Mt g.T g.sh hc' hm') (fc : ∀ q k, ak_stC q → q ≠ 35 → hc'.1 q k = hc.1 q k) (fcJ : ∀ q k, ak_stC q → q ≠ 36 → hc'.2.1 q k = hc.2.1 q k) (fm : ∀ q k, ak_stM q k → q ≠ 145 → hm'.1 q k = hm.1 q k) (fmJ : ∀ q k, ak_stM q k → q ≠ 146 → hm'.2.1 q k = hm.2.1 q k) : ak_SPP c g V hc' hm' := by
  obtain ⟨⟨hs, tx⟩, ag, ⟨hO, w0⟩, st, rm, jn, al, k1, k2⟩ := sp
  have hT := ak_T_bd hs
  unfold ak_stC at fc fcJ
  unfold ak_stM at fm fmJ
  have hwy : ∃ wy, ak_wyS hm' wy := by
    obtain ⟨wy, hwy⟩ := al.2.2.2.2.1
    exact ⟨wy, ak_wyS_fr2 hwy (fun q k h => fm q k (by omega) (by omega))⟩
  exact ⟨⟨hs, tx⟩, ak_agT_fr ag (fun q k a b => ⟨fc q k (by omega) (by omega), fcJ q k (by omega) (by omega)⟩) (fun q k a => fm q k (by unfold ak_tmI at a; omega) (by unfold ak_tmI at a; omega)), ⟨hO, wd⟩, ak_ST_fr st (fun q k h => fc q k (by omega) (by omega)) (fun k => fcJ 46 k (by omega) (by omega)) (fun q k h => fm q k (by omega) (by omega)),
    ak_RM_fr2 rm (fun q k a b => ⟨fc q k (by omega) (by omega), fcJ q k (by omega) (by omega)⟩) (fun q k h => ⟨fm q k (by omega) (by omega), fmJ q k (by omega) (by omega)⟩), ak_jn_fr jn (fun q k a b => ⟨fc q k (by omega) (by omega), fcJ q k (by omega) (by omega)⟩) (fun q k h => ⟨fm q k (by omega) (by omega), fmJ q k (by omega) (by omega)⟩),
    ak_all_fr al (fun q k h => fc q k (by omega) (by omega)) (fun k => fcJ 5 k (by omega) (by omega)) (fun q k h => fm q k (by omega) (by omega)) hwy, (fc 1 8 (by omega) (by omega)).trans k1, (fm 110 4 (by omega) (by omega)).trans k2.1, (fm 110 0 (by omega) (by omega)).trans k2.2⟩
/-- the slot of a name, and whether it may be set -/
theorem ak_slot2 {stt : Int} (w : ak_WD S O B Mt T sh hc hm) (hi : i < O) (g : 0 ≤ ak_look (T (sh i)) nm false) : ∃ k, k < 12 ∧ 12 * i + k < 2400 ∧ (∀ (e : ak_X3) (d : Nat) (ρ : List Nat) (Q : Int → ak_S → Prop) (X : Nat → ak_S → Prop), Q (k : Int) hc → ak_MI e 0 (d + 1) ρ 153 [am_r 33, am_i (sh i : Int), am_i nm] hc Q X) ∧ hc.1 34 i = (sh i : Int) ∧
    (∀ (e : ak_X3) (d : Nat) (ρ : List Nat) (Q : Int → ak_S → Prop) (X : Nat → ak_S → Prop), Q ((12 * i + k : Nat) : Int) hm → ak_MI e 1 (d + 1) ρ 238 [am_r 110, am_i (i : Int), am_i nm, am_i 0] hm Q X) ∧
    ((hm.1 143 (12 * i + k) = 0 ∧ hc.1 35 (12 * i + k) ≠ 4 ∧ ∀ x, (T (sh i))[k]? = some x → x.1 = 0) ∨ (hm.1 143 (12 * i + k) = 1 ∧ hc.1 35 (12 * i + k) = 4 ∧ ∃ m : Nat, m < Mt ∧ hc.2.1 36 (12 * i + k) = (m : Int))) := by
  obtain ⟨w1, w2, w3, ⟨w4, w5, w6⟩, w7⟩ := w
  obtain ⟨v1, v2, v3, v4, v5⟩ := w7 i hi
  obtain ⟨k, y, hk, e1, e2, e3, e4⟩ := ak_look_some g
  have l12 := (w1.2.1 (sh i) v1).1
  have S4 := w1.1.2.1
  have C := w2.2 (sh i) v1
  have y2 : y.1 ≠ 2 := fun z => by rw [z] at e4; exact absurd e4 (by decide)
  have yi := (w1.2.1 (sh i) v1).2 y (List.mem_of_getElem? e2)
  refine ⟨k, by omega, by omega, fun e d ρ Q X q => am_s153 (d := d) (n := (T (sh i)).length) (by omega) C.1 l12 ?_, v2, fun e d ρ Q X q => am_s238 (d := d) (n := (T (sh i)).length) (g := false) (w := nm) rfl (by omega) v4.1 l12 (fun z => ?_) (fun j hj z => ?_), ?_⟩
  · rw [ak_look_of C.2.1, e1]; exact q
  · rw [ak_look_of v4.2] at z; omega
  · rw [ak_look_of v4.2, e1] at z
    have : j = k := by omega
    rw [this]; exact q
  · have m3 := (v4.2 k y e2).1
    obtain ⟨h0, h1⟩ := v5 k y e2
    rcases (show y.1 = 0 ∨ y.1 = 1 by have := yi.1; have := yi.2.1; omega) with g0 | g1
    · obtain ⟨a1, a2, a3⟩ := h0 g0
      have a4 := a3.1.2
      refine Or.inl ⟨m3.trans g0, by omega, fun x hx => ?_⟩
      rw [e2] at hx
      cases hx
      exact g0
    · obtain ⟨a1, a2, a3, a4⟩ := h1 g1
      exact Or.inr ⟨m3.trans g1, a1, (hc.2.1 36 (12 * i + k)).toNat, by omega, by omega⟩
/-- the one -/
theorem am_c91 {Q : ak_S → Prop} (hu : u = 0 ∨ u = 1) (h10 : h.1 32 10 = ((A + 2 : Nat) : Int)) (hA : A + 2 ≤ 9060) (eP : hP = ak_szC (ak_szC h (A + 1)) A) (r1 : h.1 108 A = s) (r2 : h.2.1 109 A = w) (hO : h.1 33 0 = (O : Int)) (hO2 : O ≤ 200) (vk : ak_vok O B s w) (eo : ak_ofv s w = (o : Int)) (o2 : o < 200) (hi : i < 150) (hnm : h.1 (ak_T u + 16) i = nm) (h34 : h.1 34 o = (a : Int))
    (use : ∀ (Q : ak_S → Prop) (X : Nat → ak_S → Prop), Q h2 → ak_MV e 0 (d + 4) (ak_rc u ρ1 ρ2) 111 [am_r 44, am_r 33, am_i (i : Int), am_i nm, am_i (a : Int), am_i 0] hP Q X) (p1 : h2.1 44 7 = pl) (p2 : h2.1 44 8 = ho) (hM : h2.1 (ak_T u) 4 = (Mt : Int)) (hM2 : Mt ≤ 40)
    (nf : pl < 0 → ak_MV e 0 (d + 4) (ak_rc u ρ1 ρ2) 77 [am_r 32, am_i 1, am_i 1, am_l nm] h2 Q (fun _ _ => False))
    (fd : 0 ≤ pl → ∃ z : Nat, z < 2400 ∧ (∀ (Q : Int → ak_S → Prop) (X : Nat → ak_S → Prop), Q (z : Int) h2 → ak_MI e 0 (d + 4) (ak_rc u ρ1 ρ2) 88 [am_r 32, am_i (o : Int), am_i nm, am_i pl, am_i ho] h2 Q X) ∧
      ((h2.1 35 z ≠ 4 ∧ Q (am_up h2.1 35 z (h2.1 108 (A + 1)), am_up h2.2.1 36 z (h2.2.1 109 (A + 1)), h2.2.2)) ∨ (h2.1 35 z = 4 ∧ (∃ m : Nat, m < Mt ∧ h2.2.1 36 z = (m : Int)) ∧ ak_MV e 0 (d + 4) (ak_rc u ρ1 ρ2) 77 [am_r 32, am_i 11, am_i 0, am_l 0] h2 Q (fun _ _ => False)))) : ak_MV e 0 (d + 5) (ak_rc u ρ1 ρ2) 91 [am_r 32, am_i (i : Int)] h Q X := by
  have PO : ∀ q k, ¬ (q = 32 ∧ k = 10) → hP.1 q k = h.1 q k := fun q k a => by rw [eP]; exact (ak_szC_o a).trans (ak_szC_o a)
  have P2 : hP.2 = h.2 := by rw [eP]; rfl
  have hT := ak_T_bd hu
  refine ak_MV_of (Nat.le_of_ble_eq_true rfl) (am_k91_0 hu (am_s74 (d := d + 3) (n := A + 1) hu h10 (by omega) (am_s74 (d := d + 3) (n := A) hu ak_szC_v (by omega) ?_)))
  rw [← eP, ak_natn, PO 108 A (by omega), r1, P2, r2]
  refine ⟨by omega, by omega, am_s152 (d := d + 2) ((PO _ _ (by omega)).trans hO) hO2 vk ?_⟩
  rw [eo, ak_natn, ak_natn, PO _ i (by omega), hnm, PO 34 o (by omega), h34]
  refine ⟨by omega, by omega, use _ _ ?_⟩
  rw [p1, p2]
  refine ⟨fun g => ?_, nf⟩
  obtain ⟨z, hz, r88, fz⟩ := fd g
  refine r88 _ _ (am_s89 (d := d + 3) hu hz hM hM2 (fun g4 => ?_) (fun g4 => ?_))
  · rcases fz with ⟨_, q⟩ | ⟨f, _⟩
    · refine ⟨fun _ => ?_, fun z => absurd z (by decide)⟩
      rw [ak_natn, ak_natn]
      exact ⟨by omega, by omega, by omega, by omega, q⟩
    · exact absurd f g4
  · rcases fz with ⟨f, _⟩ | ⟨_, ⟨m, m1, m2⟩, q⟩
    · exact absurd g4 f
    · exact ⟨m, m1, m2, fun z => absurd z (by omega), fun _ => q⟩
theorem ak_t2 (hT : T0 + 2 ≤ 12600) : am_w32 (((T0 + 2 : Nat) : Int) - 2) = (T0 : Int) ∧ am_w32 (((T0 + 2 : Nat) : Int) - 1) = ((T0 + 1 : Nat) : Int) := by
  rw [ak_w _ (by omega), ak_w _ (by omega)]
  omega
/-- the other -/
theorem am_m295 {Q : ak_S → Prop} (he : h1 = (am_up h.1 110 104 ((N + 1 : Nat) : Int), h.2)) (hN : h.1 110 104 = (N : Int)) (hN2 : N < 4000) (h105 : h.1 110 105 = -1) (y18 : y < 18000) (h117 : h.1 117 y = (i : Int)) (hi : i < 150) (h127 : h.1 110 127 = ((T0 + 2 : Nat) : Int)) (hT : T0 + 2 ≤ 9060) (r1 : h.1 199 T0 = s) (r2 : h.2.1 200 T0 = w) (hO2 : O ≤ 200) (vk : ak_vok O B s w) (eo : ak_ofv s w = (o : Int)) (o2 : o < 200) (h142 : h.1 142 o = (a : Int))
    (use : ∀ (Q : ak_S → Prop) (X : Nat → ak_S → Prop), Q h2 → ak_MV e 1 (d + 5) ρ 260 [am_r 110, am_i (i : Int), am_i (a : Int), am_i 0] h1 Q X) (p1 : h2.1 110 69 = pl) (p2 : h2.1 110 70 = ho) (g127 : h2.1 110 127 = ((T0 + 2 : Nat) : Int)) (g117 : h2.1 117 y = (i : Int)) (g3 : h2.1 110 3 = (us : Int)) (us2 : us < 2) (gnm : h2.1 129 (150 * us + i) = nm)
    (nf : pl < 0 → ak_MV e 1 (d + 5) ρ 269 [am_r 110, am_i 1, am_i 1, am_l nm] h2 Q (fun _ _ => False))
    (fd : 0 ≤ pl → ∃ ih z : Nat, (if pl = 0 then (o : Int) else ho) = (ih : Int) ∧ z < 2400 ∧ (∀ (Q : Int → ak_S → Prop) (X : Nat → ak_S → Prop), Q (z : Int) h2 → ak_MI e 1 (d + 5) ρ 238 [am_r 110, am_i (ih : Int), am_i nm, am_i 0] h2 Q X) ∧
      ((h2.1 143 z = 0 ∧ Q (am_up (am_up h2.1 145 z (h2.1 199 (T0 + 1))) 110 127 (T0 : Int), am_up h2.2.1 146 z (h2.2.1 200 (T0 + 1)), h2.2.2)) ∨ (h2.1 143 z = 1 ∧ ak_MV e 1 (d + 5) ρ 270 [am_r 110, am_i 11] h2 Q (fun _ _ => False)))) : ak_MV e 1 (d + 6) ρ 295 [am_r 110, am_i (y : Int)] h Q X := by
  have H1 : ∀ q k, ¬ (q = 110 ∧ k = 104) → h1.1 q k = h.1 q k := fun q k a => by rw [he]; exact ak_up_out1 a
  have H2 : h1.2 = h.2 := by rw [he]
  have by' : 0 ≤ (y : Int) ∧ (y : Int) < 18000 := by omega
  have bis : 0 ≤ ((150 * us + i : Nat) : Int) ∧ ((150 * us + i : Nat) : Int) < 300 := by omega
  have L107 : ∀ ih : Nat, (if pl = 0 then (o : Int) else ho) = (ih : Int) → 0 ≤ pl → ak_W0 e 1 (d + 5) 295 ρ 107 [some (am_r 110), some (am_i (y : Int)), none, none] [am_i (ih : Int), am_r 110] h2 (ak_qv Q X) := by
    intro ih' hih g0
    obtain ⟨ih, z, e1, z2, r, fz⟩ := fd g0
    have : ih' = ih := by omega
    subst this
    refine am_k295_107 ?_
    rw [ak_natn, g117, g3, ak_is us2 hi, ak_natn, gnm]
    refine ⟨by', bis, r _ _ ?_⟩
    rw [ak_natn]
    have bz : 0 ≤ (z : Int) ∧ (z : Int) < 2400 := by omega
    rcases fz with ⟨f0, f1⟩ | ⟨f0, f1⟩
    · refine ⟨bz, fun _ => ?_, fun z => absurd z (by omega)⟩
      rw [g127, (ak_t2 (show T0 + 2 ≤ 12600 by omega)).1, (ak_t2 (show T0 + 2 ≤ 12600 by omega)).2, ak_natn]
      exact ⟨by omega, bz, by omega, bz, f1⟩
    · exact ⟨bz, fun z => absurd f0 z, fun _ => f1⟩
  refine ak_MV_of (Nat.le_of_ble_eq_true rfl) (am_k295_0 (am_s267 (d := d + 4) (n := N) hN (by omega) (fun _ => ?_) (fun z => absurd z (by omega))))
  rw [← he, H1 110 105 (by omega), h105, H1 110 127 (by omega), h127, (ak_t2 (show T0 + 2 ≤ 12600 by omega)).1, ak_natn, H1 199 _ (by omega), r1, H2, r2]
  refine ⟨fun _ => ⟨by omega, by omega, am_s280v (d := d + 4) hO2 vk ?_⟩, fun z => absurd z (by decide)⟩
  rw [eo, ak_natn, ak_natn, H1 117 y (by omega), h117, H1 142 o (by omega), h142]
  refine ⟨by', by omega, use _ _ ?_⟩
  rw [p1, p2]
  refine ⟨fun g => ?_, fun g => ?_⟩
  · obtain ⟨ih, z, e1, _⟩ := fd g
    refine ⟨fun g0 => ?_, fun g0 => ?_⟩
    · have e2 := e1
      rw [if_neg g0] at e2
      rw [e2]
      exact L107 ih e1 g
    · have e2 := e1
      rw [if_pos g0] at e2
      rw [e2]
      exact L107 ih e1 g
  · rw [g3, g117, ak_is us2 hi, ak_natn, gnm]
    exact ⟨by', bis, nf g⟩
end SET1
