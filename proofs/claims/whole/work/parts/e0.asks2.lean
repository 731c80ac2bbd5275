/-! the calls that go along ways: rests, way, look, held, next -/
section ASK2
variable {e : ak_X3} {d ρ1 ρ2 u us S O B Mt n m : Nat} {ρ : List Nat} {T : Nat → List (Int × Int)} {sh : Nat → Nat} {h hc hm hc' hm' h0 m0 : ak_S} {E : Nat → List ak_E} {Et : List ak_E} {G : List (Int × Int × Int × Int)} {φ hr lv mt : Nat → Nat} {Us FR : List Nat} {b : Nat → Int} {z : Nat → Nat} {R : ak_S → ak_S → Prop} {x0 x1 x2 x3 : Int}
theorem ak_WD_no {x : Int} (wd : ak_WD S O B Mt T sh hc hm) : ak_WD S O B Mt T sh hc (ak_no hm x) := ak_WD_fr wd ⟨fun _ _ _ => rfl, fun _ => rfl⟩ ⟨fun q k g => ak_up_out (by omega), fun _ => rfl⟩
theorem ak_ST_no {x : Int} {NS : Nat} (st : ak_ST S O NS us T sh E Et G hc hm) : ak_ST S O NS us T sh E Et G hc (ak_no hm x) := ak_ST_fr st (fun _ _ _ => rfl) (fun _ => rfl) (fun q k g => ak_up_out (by omega))
theorem ak_kM_trans (w : ak_kM hm hm') (w2 : ak_kM hm' h) : ak_kM hm h := ⟨fun q k a b => (w2.1 q k a b).trans (w.1 q k a b), fun q k => (w2.2 q k).trans (w.2 q k)⟩
theorem ak_kM_luM (w : ak_luM hm hm') : ak_kM hm hm' := ⟨fun q k a b => w.1 q k (by omega) (by omega), fun q k => by rw [w.2]⟩
theorem ak_kM_lyF (w : ak_lyF hm hm') : ak_kM hm hm' := ⟨fun q k a b => w.1 q k (by omega) (by omega), fun q k => by rw [w.2]⟩
theorem ak_kC_luF (w : ak_luF hc hc') : ak_kC hc hc' := ⟨fun q k a b c => w.1 q k a b, fun q k a => w.2.1 q k a⟩
theorem ak_kC_wkF (w : ak_wkF hc hc') : ak_kC hc hc' := ⟨fun q k a b c => w.1 q k (by omega) b, fun q k a => w.2.1 q k a⟩
theorem ak_rr_go (hu : u = 0 ∨ u = 1) (A : ak_all us hc hm) (tx : ak_tx u us n m Mt b z h0 m0) (ag : ak_agT u us h0 m0 hc hm) (hO : 4 ≤ O) (wd : ak_WD S O B Mt T sh hc hm) (st : ak_ST S O (z 7) us T sh E Et G hc hm) (rm : ak_RM u us O B Mt φ hr lv mt Us FR [] h0 m0 hc hm) (jn : ak_jn hc hm)
    (k1 : hc.1 1 8 = 1) (k2 : hm.1 110 4 = 1) (r : ak_rr u us R hc hm) (fc : ak_kC hc hc') (fcc : hc'.2.2 = hc.2.2) (fm : ak_kM hm hm') (ly : ak_ly S O T sh hm') : R hc' hm' :=
  r hc' hm' (by rw [fcc]; omega) (by rw [fcc]; omega) (ak_all_re A fc fm ⟨_, ly.choose_spec.1⟩) (ak_LD_re hu tx ag hO wd st rm jn fc fm ly) ((fc.1 _ _ (by omega) (by omega) (by omega)).trans k1) ((fm.1 _ _ (by omega) (by omega)).trans k2) (fun z => ⟨(fc.1 69 7 (by omega) (by omega) (by omega)).trans z.1, (fc.1 69 8 (by omega) (by omega) (by omega)).trans z.2⟩)
theorem ak_obs (wd : ak_WD S O B Mt T sh hc hm) : (∀ i, i < O → sh i < S ∧ ak_ob (T (sh i)) i hm) ∧ ∀ i, i < O → sh i < S ∧ hc.1 34 i = (sh i : Int) := ⟨fun i hi => ⟨(wd.2.2.2.2 i hi).1, (wd.2.2.2.2 i hi).2.2.2.1⟩, fun i hi => ⟨(wd.2.2.2.2 i hi).1, (wd.2.2.2.2 i hi).2.1⟩⟩
theorem am_ld188 (hu : u = 0 ∨ u = 1) (A : ak_all us hc hm) (L : ak_LD u us hc hm) (k1 : hc.1 1 8 = 1) (k2 : hm.1 110 4 = 1) (r : ak_rr u us R hc hm) : ak_cZ e (d + 5) [ak_T u, ρ1, ρ2, ak_T u, ak_T u + 1] 188 322 [am_i x0, am_i x1, am_i x2] hc hm [(0, 1), (2, 2)] R := by
  have rr := ak_RR_of hu A L k1 k2 r
  obtain ⟨h0, m0, b, n, m, Mt, z, S, O, B, T, sh, E, Et, G, φ, hr, lv, mt, Us, FR, tx, ag, ⟨hO, wd⟩, st, rm, jn⟩ := L
  have n1 : hc.1 1 8 ≠ 0 := by omega
  have n2 : hm.1 110 4 ≠ 0 := by omega
  obtain ⟨d1, d2, d3⟩ := (ak_tx_now tx ag).2.2.1
  have O2 := wd.2.2.2.1.1
  have w5 := wd.2.2.2.1.2.1
  have w6 := wd.2.2.2.1.2.2
  have ob1 := ak_obs (ak_WD_no (x := 0) wd)
  have go := fun hc' hm' => ak_rr_go (hc' := hc') (hm' := hm') hu A tx ag hO wd st rm jn k1 k2 r
  refine ak_MI_of (Nat.le_of_ble_eq_true rfl) (am_k188_0 hu (am_s192 hu (fun _ => am_s195 hu st d1 (fun a b => ?_) (fun a => ⟨2, by decide, ?_⟩)) (fun g => absurd g n1)))
  · rw [w5]
    obtain ⟨en, p1, p2, p3, p4, p5⟩ := ak_el_get st a b
    refine am_s193 hu (fun a2 b2 => ?_) (fun a2 => ⟨2, by decide, ?_⟩)
    · refine am_s108 (by omega) ?_
      rw [show am_w32 ((ak_ef x0 : Int) + x1) = ((ak_ef x0 + x1.toNat : Nat) : Int) from by
        rw [ak_w _ (by omega)]
        omega]
      obtain ⟨o, rfl⟩ : ∃ o : Nat, x2 = (o : Int) := ⟨x2.toNat, by omega⟩
      have st1 := ak_ST_no (x := 0) st
      have p31 : ak_eM (ak_no hm 0) (ak_ef x0 + x1.toNat) en := ak_eM_fr p3 (fun q g1 g2 => ak_up_out (by omega))
      refine am_s110 p2 p5 (by omega) ⟨by split <;> omega, by split <;> omega, ?_⟩
      refine ak_MI_of (Nat.le_of_ble_eq_true rfl) (am_k322_0 ⟨fun _ => am_s320 st (fun _ _ => ⟨fun g => absurd g (by omega), fun _ => am_s308 w6 (fun _ _ => ⟨fun _ => am_k322_34 ⟨fun g => absurd rfl g, fun _ => ?_⟩, fun g => absurd g (by decide)⟩) (fun g => absurd g (by omega))⟩) (fun g => absurd ⟨a, b⟩ g), fun g => absurd g n2⟩)
      refine am_s320 st1 (fun _ _ => ?_) (fun g => absurd ⟨a, b⟩ g)
      refine am_s253 wd.1 O2 (ak_WD_no (x := 0) wd).2.2.1 ob1.1 st1.2.2.2.2.2 p31 p4 p5 (fun h' l f => ?_)
      have fin := go hc h' ak_kC_refl rfl (ak_kM_trans ak_kM_no (ak_kM_lyF f)) l
      have f0 : h'.1 110 0 = 0 := f.1 110 0 (by omega) (by omega)
      by_cases c : o ∈ ak_er T sh O en
      · rw [if_pos c]
        exact ⟨fun g => absurd g (by decide), fun _ => ⟨Or.inr rfl, fin, f0, rfl⟩⟩
      · rw [if_neg c]
        exact ⟨fun _ => ⟨Or.inl rfl, fin, f0, rfl⟩, fun g => absurd rfl g⟩
    · exact ak_MI_of (Nat.le_of_ble_eq_true rfl) (am_k322_0 ⟨fun _ => am_s320 st (fun _ _ => ⟨fun g => absurd g (by omega), fun _ => am_s308 w6 (fun _ _ => absurd a2 (by omega)) (fun g => ⟨fun g => absurd rfl g, fun _ => am_k322_34 ⟨fun _ => ⟨Or.inl rfl, rr.2 2, rfl⟩, fun g => absurd g (by decide)⟩⟩)⟩) (fun g => absurd ⟨a, b⟩ g), fun g => absurd g n2⟩)
  · exact ak_MI_of (Nat.le_of_ble_eq_true rfl) (am_k322_0 ⟨fun _ => am_s320 st (fun a1 b1 => absurd ⟨a1, b1⟩ a) (fun _ => ⟨fun _ => am_k322_34 ⟨fun _ => ⟨Or.inl rfl, rr.2 2, rfl⟩, fun g => absurd g (by decide)⟩, fun g => absurd g (by decide)⟩), fun g => absurd g n2⟩)
theorem am_ld184 (hu : u = 0 ∨ u = 1) (A : ak_all us hc hm) (L : ak_LD u us hc hm) (k1 : hc.1 1 8 = 1) (k2 : hm.1 110 4 = 1) (r : ak_rr u us R hc hm) : ak_cI e (d + 4) [ak_T u, ρ1, ρ2, ak_T u, ak_T u + 1] 184 317 [am_i x0, am_i x1] hc hm [(0, 1), (2, 2)] R := by
  have rr := ak_RR_of hu A L k1 k2 r
  obtain ⟨h0, m0, b, n, m, Mt, z, S, O, B, T, sh, E, Et, G, φ, hr, lv, mt, Us, FR, tx, ag, ⟨hO, wd⟩, st, rm, jn⟩ := L
  have n1 : hc.1 1 8 ≠ 0 := by omega
  have n2 : hm.1 110 4 ≠ 0 := by omega
  have O2 := wd.2.2.2.1.1
  have w5 := wd.2.2.2.1.2.1
  have w6 := wd.2.2.2.1.2.2
  have ob1 := ak_obs (ak_WD_no (x := 0) wd)
  have st1 := ak_ST_no (x := 0) st
  have go := fun hc' hm' => ak_rr_go (hc' := hc') (hm' := hm') hu A tx ag hO wd st rm jn k1 k2 r
  refine ak_MI_of (Nat.le_of_ble_eq_true rfl) (am_k184_0 hu (am_s192 hu (fun _ => ?_) (fun g => absurd g n1)))
  rw [w5]
  refine am_s193 hu (fun a b => ⟨by omega, ?_⟩) (fun a => ⟨2, by decide, ?_⟩)
  · obtain ⟨o, rfl⟩ : ∃ o : Nat, x0 = (o : Int) := ⟨x0.toNat, by omega⟩
    obtain ⟨v1, v2, v3, v4⟩ := wd.2.2.2.2 o (by omega)
    rw [ak_natn, v2]
    have bo : 0 ≤ (o : Int) ∧ (o : Int) < 200 := by omega
    have run : ∀ (P : Int → ak_S → Prop), (∀ h', ak_lyF (ak_no hm 0) h' → ak_ly S O T sh h' → (x1 < 1 → P (-1) h') ∧ (1 ≤ x1 → x1 ≤ 200 → P (ak_at (ak_Wy T sh O (sh o)) (x1 - 1).toNat) h') ∧ (200 < x1 → P (-1) h')) → ak_MI e 1 (d + 4) [ak_T u, ρ1, ρ2, ak_T u, ak_T u + 1] 317 [am_r 110, am_i (o : Int), am_i x1] hm P ak_F := by
      intro P q
      refine ak_MI_of (Nat.le_of_ble_eq_true rfl) (am_k317_0 ⟨fun _ => am_s308 w6 (fun _ _ => ⟨fun _ => ⟨bo, ?_⟩, fun g => absurd g (by decide)⟩) (fun g => absurd g (by omega)), fun g => absurd g n2⟩)
      rw [ak_natn, v3]
      refine am_s248 wd.1 O2 (ak_WD_no (x := 0) wd).2.2.1 ob1.1 st1.2.2.2.2.2 v1 (fun h' l67 l f => ?_)
      obtain ⟨q1, q2, q3⟩ := q h' f ⟨_, l67, Or.inr ⟨_, v1, l, rfl⟩⟩
      refine ⟨q1, fun g1 => ⟨fun g2 => ?_, fun g2 => ?_⟩⟩
      · rw [l67.1] at g2
        have lt : (x1 - 1).toNat < (ak_Wy T sh O (sh o)).length := by omega
        have hy := List.getElem?_eq_getElem lt
        have q2' := q2 g1 (by have := l67.2.1; omega)
        have e1 : ak_at (ak_Wy T sh O (sh o)) (x1 - 1).toNat = h'.1 154 (x1 - 1).toNat := by
          unfold ak_at
          rw [hy]
          exact (l67.2.2.1 _ _ hy).1.symm
        rw [e1] at q2'
        have := l67.2.1
        rw [ak_w (x1 - 1) (by omega)]
        exact ⟨by omega, q2'⟩
      · rw [l67.1] at g2
        by_cases g3 : x1 ≤ 200
        · have q2' := q2 g1 g3
          have e1 : ak_at (ak_Wy T sh O (sh o)) (x1 - 1).toNat = -1 := by
            unfold ak_at
            rw [List.getElem?_eq_none (by omega)]
          rw [e1] at q2'
          exact q2'
        · exact q3 (by omega)
    refine am_s163 wd.1 wd.2.1 O2 ob1.2 v1 (fun g => ?_) (fun g1 g2 h1 f1 => ?_)
    · exact run _ (fun h' f l => by
        have fin := go hc h' ak_kC_refl rfl (ak_kM_trans ak_kM_no (ak_kM_lyF f)) l
        have f0 : h'.1 110 0 = 0 := f.1 110 0 (by omega) (by omega)
        exact ⟨fun _ => ⟨fin, f0, rfl⟩, fun g1 g2 => absurd g (by omega), fun _ => ⟨fin, f0, rfl⟩⟩)
    · exact run _ (fun h' f l => by
        have fin := go h1 h' (ak_kC_wkF f1) f1.2.2 (ak_kM_trans ak_kM_no (ak_kM_lyF f)) l
        have f0 : h'.1 110 0 = 0 := f.1 110 0 (by omega) (by omega)
        exact ⟨fun g => absurd g1 (by omega), fun _ _ => ⟨fin, f0, rfl⟩, fun g => absurd g2 (by omega)⟩)
  · exact ak_MI_of (Nat.le_of_ble_eq_true rfl) (am_k317_0 ⟨fun _ => am_s308 w6 (fun _ _ => absurd a (by omega)) (fun g => ⟨fun g => absurd rfl g, fun _ => am_s198 ⟨rr.2 2, rfl⟩⟩), fun g => absurd g n2⟩)
theorem am_ld185 (hu : u = 0 ∨ u = 1) (A : ak_all us hc hm) (L : ak_LD u us hc hm) (k1 : hc.1 1 8 = 1) (k2 : hm.1 110 4 = 1) (r : ak_rr u us R hc hm) : ak_cI e (d + 5) [ak_T u, ρ1, ρ2, ak_T u, ak_T u + 1] 185 318 [am_i x0, am_i x1, am_i x2] hc hm [(0, 1), (1, 3), (2, 2)] R := by
  have rr := ak_RR_of hu A L k1 k2 r
  obtain ⟨h0, m0, b, n, m, Mt, z, S, O, B, T, sh, E, Et, G, φ, hr, lv, mt, Us, FR, tx, ag, ⟨hO, wd⟩, st, rm, jn⟩ := L
  have n1 : hc.1 1 8 ≠ 0 := by omega
  have n2 : hm.1 110 4 ≠ 0 := by omega
  have O2 := wd.2.2.2.1.1
  have w5 := wd.2.2.2.1.2.1
  have w6 := wd.2.2.2.1.2.2
  obtain ⟨c1, c2, c3, c4⟩ := (ak_tx_now tx ag).2.1
  have us2 := A.1
  have hus := A.2.1
  have ob1 := ak_obs (ak_WD_no (x := 0) wd)
  have st1 := ak_ST_no (x := 0) st
  have go := fun hc' hm' => ak_rr_go (hc' := hc') (hm' := hm') hu A tx ag hO wd st rm jn k1 k2 r
  refine ak_MI_of (Nat.le_of_ble_eq_true rfl) (am_k185_0 hu (am_s192 hu (fun _ => ?_) (fun g => absurd g n1)))
  rw [w5]
  refine am_s193 hu (fun a b => (?_ : ak_MV e 0 (d + 4) [ak_T u, ρ1, ρ2, ak_T u, ak_T u + 1] 193 [am_i x1, am_i (hc.1 (ak_T u) 6)] hc _ _)) (fun a => ⟨2, by decide, ?_⟩)
  rw [c1]
  refine am_s193 hu (fun a2 b2 => ?_) (fun a2 => ⟨2, by decide, ?_⟩)
  · have bad : (x2 < -1 ∨ (O : Int) < x2) → ∃ c, (1, c) ∈ [(0, (1 : Int)), (1, 3), (2, 2)] ∧ ak_MI e 1 (d + 5) [ak_T u, ρ1, ρ2, ak_T u, ak_T u + 1] 318 [am_r 110, am_i x0, am_i x1, am_i x2] hm (fun _ hm' => R (ak_th hc) hm' ∧ hm'.1 110 0 = c) ak_F := by
      intro g
      refine ⟨3, by decide, ak_MI_of (Nat.le_of_ble_eq_true rfl) (am_k318_0 ⟨fun _ => am_s308 w6 (fun _ _ => ⟨fun g => absurd g (by decide), fun _ => am_s309 hus us2 c2 (fun _ _ => ⟨fun _ => ⟨fun _ => am_s198 ⟨rr.2 3, rfl⟩, fun g1 => ?_⟩, fun g => absurd g (by decide)⟩) (fun g => absurd g (by omega))⟩) (fun g => absurd g (by omega)), fun g => absurd g n2⟩)⟩
      rw [w6]
      exact ⟨fun g2 => absurd g (by omega), fun _ => am_s198 ⟨rr.2 3, rfl⟩⟩
    rw [w5]
    refine ⟨fun g => bad (Or.inl g), fun g1 => ⟨fun g2 => ⟨by omega, ?_⟩, fun g => bad (Or.inr g)⟩⟩
    obtain ⟨o, rfl⟩ : ∃ o : Nat, x0 = (o : Int) := ⟨x0.toNat, by omega⟩
    obtain ⟨v1, v2, v3, v4⟩ := wd.2.2.2.2 o (by omega)
    have bo : 0 ≤ (o : Int) ∧ (o : Int) < 200 := by omega
    rw [ak_natn, v2]
    refine am_s164 (d := d + 1) (start := x2) (nm := x1) wd.1 wd.2.1 O2 ob1.2 v1 (by omega) (fun h1 r1 r2 _ f1 => ?_)
    refine ak_MI_of (Nat.le_of_ble_eq_true rfl) (am_k318_0 ⟨fun _ => am_s308 w6 (fun _ _ => ⟨fun g => absurd g (by decide), fun _ => am_s309 hus us2 c2 (fun _ _ => ⟨fun _ => ⟨fun g => absurd g1 (by omega), fun _ => ?_⟩, fun g => absurd g (by decide)⟩) (fun g => absurd g (by omega))⟩) (fun g => absurd g (by omega)), fun g => absurd g n2⟩)
    rw [w6, ak_natn, v3]
    refine ⟨fun _ => ⟨bo, ?_⟩, fun g => absurd g2 (by omega)⟩
    refine am_s251 (start := x2) (nm := x1) wd.1 O2 (ak_WD_no (x := 0) wd).2.2.1 ob1.1 st1.2.2.2.2.2 v1 (by omega) (fun h2 s1 s2 l f2 => ?_)
    exact ⟨go h1 h2 (ak_kC_luF f1) f1.2.2 (ak_kM_trans ak_kM_no (ak_kM_luM f2)) l, f2.1 110 0 (by omega) (by omega), r1.trans s1.symm⟩
  · exact ak_MI_of (Nat.le_of_ble_eq_true rfl) (am_k318_0 ⟨fun _ => am_s308 w6 (fun _ _ => ⟨fun g => absurd g (by decide), fun _ => am_s309 hus us2 c2 (fun _ _ => absurd a2 (by omega)) (fun g => ⟨fun g => absurd rfl g, fun _ => am_s198 ⟨rr.2 2, rfl⟩⟩)⟩) (fun g => absurd g (by omega)), fun g => absurd g n2⟩)
  · exact ak_MI_of (Nat.le_of_ble_eq_true rfl) (am_k318_0 ⟨fun _ => am_s308 w6 (fun _ _ => absurd a (by omega)) (fun g => ⟨fun _ => am_s198 ⟨rr.2 2, rfl⟩, fun g => absurd rfl g⟩), fun g => absurd g n2⟩)
theorem am_ld183 (hu : u = 0 ∨ u = 1) (A : ak_all us hc hm) (L : ak_LD u us hc hm) (k1 : hc.1 1 8 = 1) (k2 : hm.1 110 4 = 1) (r : ak_rr u us R hc hm) : ak_cJ e (d + 3) [ak_T u, ρ1, ρ2, ak_T u, ak_T u + 1] 183 316 [am_i x0, am_i x1, am_i x2] hc hm [(0, 1), (1, 3), (2, 2)] R := by
  have rr := ak_RR_of hu A L k1 k2 r
  obtain ⟨h0, m0, b, n, m, Mt, z, S, O, B, T, sh, E, Et, G, φ, hr, lv, mt, Us, FR, tx, ag, ⟨hO, wd⟩, st, rm, jn⟩ := L
  have n1 : hc.1 1 8 ≠ 0 := by omega
  have n2 : hm.1 110 4 ≠ 0 := by omega
  obtain ⟨c1, c2, c3, c4⟩ := (ak_tx_now tx ag).2.1
  have us2 := A.1
  have hus := A.2.1
  obtain ⟨w1, w2, w3, ⟨O2, w5, w6⟩, w7⟩ := wd
  have hS := w1.1.2.1
  clear tx ag st rm jn r
  refine ak_MJ_of (Nat.le_of_ble_eq_true rfl) (am_k183_0 hu (am_s192 hu (fun _ => ?_) (fun g => absurd g n1)))
  rw [w5]
  refine am_s193 hu (fun a b => (?_ : ak_MV e 0 (d + 2) [ak_T u, ρ1, ρ2, ak_T u, ak_T u + 1] 193 [am_i x1, am_i (hc.1 (ak_T u) 6)] hc _ _)) (fun a => ⟨2, by decide, ?_⟩)
  rw [c1]
  refine am_s193 hu (fun a2 b2 => am_s194 hu (fun a3 b3 => ⟨by omega, ?_⟩) (fun a3 => ⟨3, by decide, ?_⟩)) (fun a2 => ⟨2, by decide, ?_⟩)
  · obtain ⟨o, rfl⟩ : ∃ o : Nat, x0 = (o : Int) := ⟨x0.toNat, by omega⟩
    obtain ⟨v1, v2, v3, v4, v5⟩ := w7 o (by omega)
    obtain ⟨y1, y2, y3⟩ := w2.2 (sh o) v1
    obtain ⟨yl, yt⟩ := w1.2.1 (sh o) v1
    rw [ak_natn, v2]
    have L1 := ak_look_of (w := x1) (g := false) y2
    have L2 : ak_fst (ak_ps ((ak_no hm 0).1 143) ((ak_no hm 0).1 144) (12 * o) x1 false) (T (sh o)).length 0 = ak_look (T (sh o)) x1 false := ak_look_of v4.2
    have run : ∀ (P : Int → ak_S → Prop), (ak_look (T (sh o)) x1 false < 0 → (x2 ≠ 0 → P 0 (ak_no hm 0)) ∧ (x2 = 0 → P (-1) (ak_no hm 0))) → (∀ (k : Nat) (y : Int × Int), k < (T (sh o)).length → (T (sh o))[k]? = some y → y.1 ≠ 2 → ak_look (T (sh o)) x1 false = (k : Int) → (x2 ≠ 1 → (y.1 ≠ 1 → P (hm.1 145 (12 * o + k)) (ak_no hm 0)) ∧ (y.1 = 1 → P 4 (ak_no hm 0))) ∧ (x2 = 1 → P (hm.2.1 146 (12 * o + k)) (ak_no hm 0))) →
        ak_MJ e 1 (d + 3) [ak_T u, ρ1, ρ2, ak_T u, ak_T u + 1] 316 [am_r 110, am_i (o : Int), am_i x1, am_i x2] hm P ak_F := by
      intro P q1 q2
      refine ak_MJ_of (Nat.le_of_ble_eq_true rfl) (am_k316_0 ⟨fun _ => am_s308 w6 (fun _ _ => ⟨fun g => absurd g (by decide), fun _ => am_s309 hus us2 c2 (fun _ _ => ⟨fun _ => ⟨fun g => absurd a3 (by omega), fun _ => ⟨fun _ => ?_, fun g => absurd b3 (by omega)⟩⟩, fun g => absurd g (by decide)⟩) (fun g => absurd g (by omega))⟩) (fun g => absurd g (by omega)), fun g => absurd g n2⟩)
      refine am_s238 (d := d + 1) (g := false) (n := (T (sh o)).length) rfl (by omega) v4.1 yl (fun g => ?_) (fun k hk g => ?_)
      · replace g : ak_look (T (sh o)) x1 false < 0 := by
          rw [← L2]
          exact g
        exact ⟨fun g2 => absurd g2 (by decide), fun _ => q1 g⟩
      · replace g : ak_look (T (sh o)) x1 false = (k : Int) := by
          rw [← L2]
          exact g
        obtain ⟨k', y, k1', k2', k3', k4', k5'⟩ := ak_look_some (l := T (sh o)) (w := x1) (g := false) (by omega)
        have ek : k' = k := by omega
        subst ek
        have ny : y.1 ≠ 2 := of_decide_eq_false k5'
        obtain ⟨r1, r2⟩ := q2 k' y k1' k3' ny g
        have v6 := (v4.2 _ _ k3').1
        have bi : 0 ≤ ((12 * o + k' : Nat) : Int) ∧ ((12 * o + k' : Nat) : Int) < 2400 := by omega
        rw [ak_natn, show ((am_up hm.1 110 0 0, hm.2) : ak_S).1 143 (12 * o + k') = y.1 from v6]
        exact ⟨fun _ => ⟨fun g1 => ⟨bi, fun g2 => ⟨bi, (r1 g1).1 g2⟩, fun g2 => (r1 g1).2 g2⟩, fun g1 => ⟨bi, r2 g1⟩⟩, fun g2 => absurd g2 (by omega)⟩
    refine am_s153 (d := d + 1) (by omega) y1 yl ?_
    rw [L1]
    refine ⟨fun g => ?_, fun g => ⟨fun g2 => run _ (fun _ => ⟨fun _ => ⟨rr.1, rfl, rfl⟩, fun g3 => absurd g3 g2⟩) (fun k y _ _ _ g3 => absurd g (by omega)), fun g2 => run _ (fun _ => ⟨fun g3 => absurd g2 g3, fun _ => ⟨rr.1, rfl, rfl⟩⟩) (fun k y _ _ _ g3 => absurd g (by omega))⟩⟩
    obtain ⟨k, y, j1, j2, j3, j4, j5⟩ := ak_look_some g
    have hv := v5 k y j3
    have ky := (yt y (List.mem_of_getElem? j3))
    rw [j2, show am_w32 (am_w32 ((o : Int) * 12) + (k : Int)) = ((12 * o + k : Nat) : Int) from by
      rw [ak_w ((o : Int) * 12) (by omega), ak_w _ (by omega)]
      omega, ak_natn]
    refine ⟨fun g2 => ⟨by omega, run _ (fun g3 => absurd g (by omega)) (fun k' y' k1' k2' ny k3' => ?_)⟩, fun g2 => ⟨by omega, run _ (fun g3 => absurd g (by omega)) (fun k' y' k1' k2' ny k3' => ?_)⟩⟩
    · have ek : k' = k := by omega
      subst ek
      rw [j3] at k2'
      cases k2'
      refine ⟨fun g3 => absurd g3 (by omega), fun _ => ⟨rr.1, rfl, ?_⟩⟩
      by_cases c : y.1 = 1
      · exact (hv.2 c).2.1
      · exact (hv.1 (by have := ky.1; have := ky.2.1; omega)).2.1
    · have ek : k' = k := by omega
      subst ek
      rw [j3] at k2'
      cases k2'
      refine ⟨fun _ => ⟨fun c => ⟨rr.1, rfl, (hv.1 (by have := ky.1; have := ky.2.1; omega)).1⟩, fun c => ⟨rr.1, rfl, (hv.2 c).1⟩⟩, fun g3 => absurd g3 (by omega)⟩
  · exact ak_MJ_of (Nat.le_of_ble_eq_true rfl) (am_k316_0 ⟨fun _ => am_s308 w6 (fun _ _ => ⟨fun g => absurd g (by decide), fun _ => am_s309 hus us2 c2 (fun _ _ => ⟨fun _ => ⟨fun _ => am_s198 ⟨rr.2 3, rfl⟩, fun g => ⟨fun g2 => absurd a3 (by omega), fun _ => am_s198 ⟨rr.2 3, rfl⟩⟩⟩, fun g => absurd g (by decide)⟩) (fun g => absurd g (by omega))⟩) (fun g => absurd g (by omega)), fun g => absurd g n2⟩)
  · exact ak_MJ_of (Nat.le_of_ble_eq_true rfl) (am_k316_0 ⟨fun _ => am_s308 w6 (fun _ _ => ⟨fun g => absurd g (by decide), fun _ => am_s309 hus us2 c2 (fun _ _ => absurd a2 (by omega)) (fun g => ⟨fun g => absurd rfl g, fun _ => am_s198 ⟨rr.2 2, rfl⟩⟩)⟩) (fun g => absurd g (by omega)), fun g => absurd g n2⟩)
  · exact ak_MJ_of (Nat.le_of_ble_eq_true rfl) (am_k316_0 ⟨fun _ => am_s308 w6 (fun _ _ => absurd a (by omega)) (fun g => ⟨fun _ => am_s198 ⟨rr.2 2, rfl⟩, fun g => absurd rfl g⟩), fun g => absurd g n2⟩)
end ASK2
