/-! the calls that read sites and entries -/
section SITC
variable {e : ak_X3} {d ρ1 ρ2 u us S O NS : Nat} {ρ : List Nat} {T : Nat → List (Int × Int)} {sh : Nat → Nat} {h hc hm : ak_S} {E : Nat → List ak_E} {Et : List ak_E} {G : List (Int × Int × Int × Int)} {R : ak_S → ak_S → Prop} {x0 x1 x2 x3 : Int}
def ak_el (E : Nat → List ak_E) (Et : List ak_E) (i : Int) : List ak_E := if i < 0 then Et else E i.toNat
def ak_ef (i : Int) : Nat := if i < 0 then 600 else 4 * i.toNat
theorem ak_el_get (st : ak_ST S O NS us T sh E Et G hc hm) (h1 : -1 ≤ x1 ∧ x1 < (NS : Int)) (h2 : 0 ≤ x2 ∧ x2 < ((ak_el E Et x1).length : Int)) :
    ∃ en, ak_eC hc (ak_ef x1 + x2.toNat) en ∧ ak_eB hc (ak_ef x1 + x2.toNat) (ak_er T sh O en) ∧ ak_eM hm (ak_ef x1 + x2.toNat) en ∧ ak_eok S O T sh en ∧ ak_ef x1 + x2.toNat < 728 := by
  obtain ⟨⟨u1, u2, u3, u4⟩, si, ⟨⟨t1, t2⟩, t3, t4, t5, t6⟩, _⟩ := st
  unfold ak_el at h2
  unfold ak_ef
  by_cases hi : x1 < 0
  · rw [if_pos hi] at h2 ⊢
    have lt : x2.toNat < Et.length := by omega
    have hy := List.getElem?_eq_getElem lt
    exact ⟨_, (t3 _ _ hy).1, (t3 _ _ hy).2, t4 _ _ hy, t2 _ (List.getElem_mem lt), by omega⟩
  · rw [if_neg hi] at h2 ⊢
    obtain ⟨⟨a1, a2, a3⟩, ⟨b1, b2, b3, b4⟩, _⟩ := si x1.toNat (by omega)
    have lt : x2.toNat < (E x1.toNat).length := by omega
    have hy := List.getElem?_eq_getElem lt
    exact ⟨_, (b1 _ _ hy).1, (b1 _ _ hy).2, b2 _ _ hy, a3 _ (List.getElem_mem lt), by omega⟩
theorem am_s109 {Q : Int → ak_S → Prop} {X : Nat → ak_S → Prop} (st : ak_ST S O NS us T sh E Et G h hm) (h1 : x1 < 150) (w : Q ((ak_el E Et x1).length : Int) h) : ak_MI e 0 (d + 1) ρ 109 [am_r 44, am_i x1] h Q X := by
  obtain ⟨⟨u1, u2, u3, u4⟩, si, ⟨⟨t1, t2⟩, t3, t4, t5, t6⟩, _⟩ := st
  unfold ak_el at w
  refine ak_MI_of (Nat.le_of_ble_eq_true rfl) (am_k109_0 ⟨fun g => ?_, fun g => ?_⟩)
  · rw [if_neg (by omega)] at w
    rw [show am_w32 (am_w32 (x1 * 6) + 1) = ((6 * x1.toNat + 1 : Nat) : Int) from by
      rw [ak_w (x1 * 6) (by omega), ak_w _ (by omega)]
      omega, ak_natn, (si x1.toNat (by omega)).2.1.2.2.1]
    exact ⟨by omega, w⟩
  · rw [if_pos g] at w
    rw [t5]
    exact w
theorem am_s108 {Q : Int → ak_S → Prop} {X : Nat → ak_S → Prop} (h1 : x1 < 150) (w : Q (ak_ef x1 : Int) h) : ak_MI e 0 (d + 1) ρ 108 [am_i x1] h Q X := by
  unfold ak_ef at w
  refine ak_MI_of (Nat.le_of_ble_eq_true rfl) (am_k108_0 ⟨fun g => ?_, fun g => ?_⟩)
  · rw [if_neg (by omega)] at w
    rw [show am_w32 (x1 * 4) = ((4 * x1.toNat : Nat) : Int) from by
      rw [ak_w _ (by omega)]
      omega]
    exact w
  · rw [if_pos g] at w
    exact w
theorem am_s195 {Q : ak_S → Prop} {X : Nat → ak_S → Prop} (hu : u = 0 ∨ u = 1) (st : ak_ST S O NS us T sh E Et G h hm) (hN : h.1 (ak_T u) 10 = (NS : Int)) (w1 : (-1 ≤ x1 ∧ x1 < (NS : Int)) → (0 ≤ x2 ∧ x2 < ((ak_el E Et x1).length : Int)) → Q h)
    (w2 : ¬ ((-1 ≤ x1 ∧ x1 < (NS : Int)) ∧ (0 ≤ x2 ∧ x2 < ((ak_el E Et x1).length : Int))) → X 2 (ak_th h)) : ak_MV e 0 (d + 2) [ak_T u, ρ1, ρ2, ak_T u, ak_T u + 1] 195 [am_r 1, am_i x1, am_i x2] h Q X := by
  have hNS := st.1.2.2.2
  refine ak_MV_of (Nat.le_of_ble_eq_true rfl) (am_k195_0 hu ⟨fun g => ?_, fun g => ?_⟩)
  · subst g
    exact am_s109 st (by decide) (am_s193 hu (fun a b => w1 ⟨by decide, by omega⟩ ⟨a, b⟩) (fun a => w2 (by omega)))
  · rw [hN]
    refine am_s193 hu (fun a b => am_s109 st (by omega) (am_s193 hu (fun a2 b2 => w1 ⟨by omega, b⟩ ⟨a2, b2⟩) (fun a2 => w2 (by omega)))) (fun a => w2 (by omega))
theorem am_s320 {Q : Int → ak_S → Prop} {X : Nat → ak_S → Prop} (st : ak_ST S O NS us T sh E Et G hc h) (w1 : (-1 ≤ x1 ∧ x1 < (NS : Int)) → (0 ≤ x2 ∧ x2 < ((ak_el E Et x1).length : Int)) → Q ((ak_ef x1 + x2.toNat : Nat) : Int) h)
    (w2 : ¬ ((-1 ≤ x1 ∧ x1 < (NS : Int)) ∧ (0 ≤ x2 ∧ x2 < ((ak_el E Et x1).length : Int))) → Q (-1) h) : ak_MI e 1 (d + 1) ρ 320 [am_r 110, am_i x1, am_i x2] h Q X := by
  obtain ⟨⟨u1, u2, u3, u4⟩, si, ⟨⟨t1, t2⟩, t3, t4, t5, t6⟩, _⟩ := st
  refine ak_MI_of (Nat.le_of_ble_eq_true rfl) (am_k320_0 ?_)
  rw [u1, ak_natn, u3, t6]
  refine ⟨fun g => w2 (by omega), fun g => ⟨by omega, fun g2 => w2 (by omega), fun g2 => ⟨fun g3 => ⟨fun g4 => ⟨by omega, ?_⟩, fun g4 => ?_⟩, fun g3 => w2 (by omega)⟩⟩⟩
  · obtain ⟨⟨a1, a2, a3⟩, ⟨b1, b2, b3, b4⟩, _⟩ := si x1.toNat (by omega)
    have e1 : ak_el E Et x1 = E x1.toNat := if_neg (by omega)
    have e2 : ak_ef x1 = 4 * x1.toNat := if_neg (by omega)
    rw [e1] at w1 w2
    rw [e2] at w1
    rw [b4]
    refine ⟨fun g5 => w2 (by omega), fun g5 => ?_⟩
    rw [show am_w32 (am_w32 (4 * x1) + x2) = ((4 * x1.toNat + x2.toNat : Nat) : Int) from by
      rw [ak_w (4 * x1) (by omega), ak_w _ (by omega)]
      omega]
    exact w1 ⟨g, g2⟩ ⟨g3, g5⟩
  · have e1 : ak_el E Et x1 = Et := if_pos g4
    have e2 : ak_ef x1 = 600 := if_pos g4
    rw [e1] at w1 w2
    rw [e2] at w1
    refine ⟨fun g5 => w2 (by omega), fun g5 => ?_⟩
    rw [show am_w32 (600 + x2) = ((600 + x2.toNat : Nat) : Int) from by
      rw [ak_w _ (by omega)]
      omega]
    exact w1 ⟨g, g2⟩ ⟨g3, g5⟩
theorem am_ld187 (hu : u = 0 ∨ u = 1) (A : ak_all us hc hm) (L : ak_LD u us hc hm) (k1 : hc.1 1 8 = 1) (k2 : hm.1 110 4 = 1) (r : ak_rr u us R hc hm) : ak_cI e (d + 3) [ak_T u, ρ1, ρ2, ak_T u, ak_T u + 1] 187 321 [am_i x0, am_i x1, am_i x2] hc hm [(0, 1), (1, 3), (2, 2)] R := by
  have rr := ak_RR_of hu A L k1 k2 r
  obtain ⟨h0, m0, b, n, m, Mt, z, S, O, B, T, sh, E, Et, G, φ, hr, lv, mt, Us, FR, tx, ag, ⟨hO, wd⟩, st, rm, jn⟩ := L
  have n1 : hc.1 1 8 ≠ 0 := by omega
  have n2 : hm.1 110 4 ≠ 0 := by omega
  obtain ⟨d1, d2, d3⟩ := (ak_tx_now tx ag).2.2.1
  clear tx ag rm jn r A wd
  refine ak_MI_of (Nat.le_of_ble_eq_true rfl) (am_k187_0 hu (am_s192 hu (fun _ => am_s195 hu st d1 (fun a b => am_s194 hu (fun a2 b2 => ?_) (fun a2 => ⟨3, by decide, ?_⟩)) (fun a => ⟨2, by decide, ?_⟩)) (fun g => absurd g n1)))
  · obtain ⟨en, p1, p2, p3, p4, p5⟩ := ak_el_get st a b
    obtain ⟨c0, c1, c2, c3, c4⟩ := p1
    obtain ⟨q0, q1, q2, q3, q4⟩ := p3
    refine am_s108 (by omega) ?_
    generalize hf : ak_ef x0 = f at p5 c0 c1 c2 c3 c4 q0 q1 q2 q3 q4
    have i0 : 0 ≤ ((f + x1.toNat : Nat) : Int) ∧ ((f + x1.toNat : Nat) : Int) < 728 := by omega
    rw [show am_w32 (am_w32 (am_w32 ((f : Int) + x1) * 5) + x2) = ((5 * (f + x1.toNat) + x2.toNat : Nat) : Int) from by
      rw [ak_w ((f : Int) + x1) (by omega), ak_w (((f : Int) + x1) * 5) (by omega), ak_w _ (by omega)]
      omega, ak_natn]
    refine ⟨by omega, ak_MI_of (Nat.le_of_ble_eq_true rfl) (am_k321_0 ⟨fun _ => am_s320 st (fun _ _ => ⟨fun _ => ⟨fun g => absurd a2 (by omega), fun _ => ⟨fun _ => ?_, fun g => absurd b2 (by omega)⟩⟩, fun g => absurd g (by omega)⟩) (fun g => absurd ⟨a, b⟩ g), fun g => absurd g n2⟩)⟩
    rw [hf, ak_natn]
    refine ⟨fun m0 => ⟨fun m1 => ⟨fun m2 => ⟨fun m3 => ⟨i0, rr.1, rfl, ?_⟩, fun m3 => ⟨i0, rr.1, rfl, ?_⟩⟩, fun m2 => ⟨i0, rr.1, rfl, ?_⟩⟩, fun m1 => ⟨i0, rr.1, rfl, ?_⟩⟩, fun m0 => ⟨i0, rr.1, rfl, ?_⟩⟩
    · have : x2 = 4 := by omega
      subst this
      exact c4.trans q1.symm
    · subst m3
      exact c3.trans q4.symm
    · subst m2
      exact c2.trans q3.symm
    · subst m1
      exact c1.trans q2.symm
    · subst m0
      exact c0.trans q0.symm
  · exact ak_MI_of (Nat.le_of_ble_eq_true rfl) (am_k321_0 ⟨fun _ => am_s320 st (fun _ _ => ⟨fun _ => ⟨fun _ => am_s198 ⟨rr.2 3, rfl⟩, fun g => ⟨fun g2 => absurd a2 (by omega), fun _ => am_s198 ⟨rr.2 3, rfl⟩⟩⟩, fun g => absurd g (by omega)⟩) (fun g => absurd ⟨a, b⟩ g), fun g => absurd g n2⟩)
  · exact ak_MI_of (Nat.le_of_ble_eq_true rfl) (am_k321_0 ⟨fun _ => am_s320 st (fun a1 b1 => absurd ⟨a1, b1⟩ a) (fun _ => ⟨fun g => absurd g (by decide), fun _ => am_s198 ⟨rr.2 2, rfl⟩⟩), fun g => absurd g n2⟩)
theorem am_ld186 (hu : u = 0 ∨ u = 1) (A : ak_all us hc hm) (L : ak_LD u us hc hm) (k1 : hc.1 1 8 = 1) (k2 : hm.1 110 4 = 1) (r : ak_rr u us R hc hm) : ak_cI e (d + 2) [ak_T u, ρ1, ρ2, ak_T u, ak_T u + 1] 186 319 [am_i x0, am_i x1] hc hm [(0, 1), (1, 3), (2, 2)] R := by
  have rr := ak_RR_of hu A L k1 k2 r
  obtain ⟨h0, m0, b, n, m, Mt, z, S, O, B, T, sh, E, Et, G, φ, hr, lv, mt, Us, FR, tx, ag, ⟨hO, wd⟩, st, rm, jn⟩ := L
  have n1 : hc.1 1 8 ≠ 0 := by omega
  have n2 : hm.1 110 4 ≠ 0 := by omega
  obtain ⟨_, _, ⟨d1, d2, d3⟩, _, sr⟩ := ak_tx_now tx ag
  have us2 := A.1
  have hus := A.2.1
  clear tx ag rm jn r A wd
  refine ak_MI_of (Nat.le_of_ble_eq_true rfl) (am_k186_0 hu (am_s192 hu (fun _ => ?_) (fun g => absurd g n1)))
  rw [d1]
  refine am_s193 hu (fun a b => am_s194 hu (fun a2 b2 => ?_) (fun a2 => ⟨3, by decide, ?_⟩)) (fun a => ⟨2, by decide, ?_⟩)
  · obtain ⟨⟨y1, y2, y3⟩, ⟨b1, b2', b3, b4⟩, ⟨z1, z2⟩, z3, z4, z5, z6, z7⟩ := st.2.1 x0.toNat (by omega)
    obtain ⟨s1, s2, s3⟩ := sr x0.toNat (by omega)
    have i0 : 0 ≤ x0 ∧ x0 < 150 := by omega
    have ix : am_w32 (am_w32 (150 * (us : Int)) + x0) = ((150 * us + x0.toNat : Nat) : Int) := by
      rw [ak_w (150 * (us : Int)) (by omega), ak_w _ (by omega)]
      omega
    have i1 : 0 ≤ ((150 * us + x0.toNat : Nat) : Int) ∧ ((150 * us + x0.toNat : Nat) : Int) < 300 := by omega
    have u0 : 0 ≤ (us : Int) ∧ (us : Int) < 2 := by omega
    have key : ∀ v : Int, (x1 = 0 → v = hm.1 128 (150 * us + x0.toNat)) → (x1 = 1 → v = hm.1 129 (150 * us + x0.toNat)) → (x1 = 2 → v = hm.1 158 x0.toNat) → (x1 = 3 → v = hm.1 159 x0.toNat) → (x1 = 4 → v = hm.1 160 x0.toNat) → (x1 = 5 → v = hm.1 161 x0.toNat) → (x1 = 6 → v = hm.1 162 x0.toNat) → (x1 = 7 → v = hm.1 163 x0.toNat) → (x1 = 8 → v = hm.1 130 (150 * us + x0.toNat)) →
        ak_MI e 1 (d + 2) [ak_T u, ρ1, ρ2, ak_T u, ak_T u + 1] 319 [am_r 110, am_i x0, am_i x1] hm (fun b hm' => R hc hm' ∧ hm'.1 110 0 = 0 ∧ v = b) ak_F := by
      intro v v0 v1 v2 v3 v4 v5 v6 v7 v8
      refine ak_MI_of (Nat.le_of_ble_eq_true rfl) (am_k319_0 ⟨fun _ => ⟨fun g => absurd a (by omega), fun _ => ?_⟩, fun g => absurd g n2⟩)
      rw [hus, ak_natn, d2, ix, ak_natn]
      exact ⟨u0, fun _ => ⟨fun g => absurd a2 (by omega), fun _ => ⟨fun _ => ⟨trivial, fun g => ⟨i1, rr.1, rfl, v8 (by omega)⟩, fun g => ⟨i1, rr.1, rfl, v0 g⟩, fun g => ⟨i1, rr.1, rfl, v1 (by omega)⟩, fun g => ⟨i0, rr.1, rfl, v2 (by omega)⟩, fun g => ⟨i0, rr.1, rfl, v3 (by omega)⟩, fun g => ⟨i0, rr.1, rfl, v4 (by omega)⟩, fun g => ⟨i0, rr.1, rfl, v5 (by omega)⟩, fun g => ⟨i0, rr.1, rfl, v6 (by omega)⟩, fun g => ⟨i0, rr.1, rfl, v7 (by omega)⟩, trivial⟩, fun g => absurd b2 (by omega)⟩⟩, fun g => absurd b (by omega)⟩
    have no : ∀ {p : Prop} {k j : Int}, x1 = k → k ≠ j → x1 = j → p := fun h1 h2 h3 => absurd (h1.symm.trans h3) h2
    refine ⟨trivial, fun g => ?_, fun g => ⟨i0, key _ (fun _ => s1) (no g (by decide)) (no g (by decide)) (no g (by decide)) (no g (by decide)) (no g (by decide)) (no g (by decide)) (no g (by decide)) (no g (by decide))⟩, fun g => ⟨i0, key _ (no g (by decide)) (fun _ => s2) (no g (by decide)) (no g (by decide)) (no g (by decide)) (no g (by decide)) (no g (by decide)) (no g (by decide)) (no g (by decide))⟩, fun g => ⟨i0, key _ (no g (by decide)) (no g (by decide)) (no g (by decide)) (no g (by decide)) (no g (by decide)) (no g (by decide)) (no g (by decide)) (no g (by decide)) (fun _ => s3)⟩, trivial⟩
    have ix2 : am_w32 (am_w32 (am_w32 (x0 * 6) + x1) - 2) = ((6 * x0.toNat + (x1.toNat - 2) : Nat) : Int) := by
      rw [ak_w (x0 * 6) (by omega), ak_w (x0 * 6 + x1) (by omega), ak_w _ (by omega)]
      omega
    rw [ix2, ak_natn]
    refine ⟨by omega, ?_⟩
    have c : x1 = 2 ∨ x1 = 3 ∨ x1 = 4 ∨ x1 = 5 ∨ x1 = 6 ∨ x1 = 7 := by omega
    rcases c with c | c | c | c | c | c
    · refine key _ (no c (by decide)) (no c (by decide)) (fun _ => ?_) (no c (by decide)) (no c (by decide)) (no c (by decide)) (no c (by decide)) (no c (by decide)) (no c (by decide))
      subst c; exact z3
    · refine key _ (no c (by decide)) (no c (by decide)) (no c (by decide)) (fun _ => ?_) (no c (by decide)) (no c (by decide)) (no c (by decide)) (no c (by decide)) (no c (by decide))
      subst c; exact b3.trans b4.symm
    · refine key _ (no c (by decide)) (no c (by decide)) (no c (by decide)) (no c (by decide)) (fun _ => ?_) (no c (by decide)) (no c (by decide)) (no c (by decide)) (no c (by decide))
      subst c; exact z4
    · refine key _ (no c (by decide)) (no c (by decide)) (no c (by decide)) (no c (by decide)) (no c (by decide)) (fun _ => ?_) (no c (by decide)) (no c (by decide)) (no c (by decide))
      subst c; exact z5
    · refine key _ (no c (by decide)) (no c (by decide)) (no c (by decide)) (no c (by decide)) (no c (by decide)) (no c (by decide)) (fun _ => ?_) (no c (by decide)) (no c (by decide))
      subst c; exact z1
    · refine key _ (no c (by decide)) (no c (by decide)) (no c (by decide)) (no c (by decide)) (no c (by decide)) (no c (by decide)) (no c (by decide)) (fun _ => ?_) (no c (by decide))
      subst c; exact z6
  · refine ak_MI_of (Nat.le_of_ble_eq_true rfl) (am_k319_0 ⟨fun _ => ⟨fun g => absurd a (by omega), fun _ => ?_⟩, fun g => absurd g n2⟩)
    rw [hus, ak_natn, d2]
    exact ⟨by omega, fun _ => ⟨fun _ => am_s198 ⟨rr.2 3, rfl⟩, fun g => ⟨fun g2 => absurd a2 (by omega), fun _ => am_s198 ⟨rr.2 3, rfl⟩⟩⟩, fun g => absurd b (by omega)⟩
  · refine ak_MI_of (Nat.le_of_ble_eq_true rfl) (am_k319_0 ⟨fun _ => ⟨fun _ => am_s198 ⟨rr.2 2, rfl⟩, fun g => ?_⟩, fun g => absurd g n2⟩)
    rw [hus, ak_natn, d2]
    exact ⟨by omega, fun g2 => absurd a (by omega), fun _ => am_s198 ⟨rr.2 2, rfl⟩⟩
end SITC
