/-! the calls change and astray -/
section CHG
variable {e : ak_X3} {d ρ1 ρ2 u us S O B Mt n m NS : Nat} {ρ : List Nat} {T : Nat → List (Int × Int)} {sh : Nat → Nat} {h hc hm hc' hm' h0 m0 : ak_S} {E : Nat → List ak_E} {Et : List ak_E} {G : List (Int × Int × Int × Int)} {φ hr lv mt : Nat → Nat} {Us FR : List Nat} {b : Nat → Int} {z : Nat → Nat} {R : ak_S → ak_S → Prop} {x0 x1 x2 x3 : Int}
theorem ak_lsign_lt {a b : Int} : (am_lsign a b < 0 ↔ a < b) ∧ (0 ≤ am_lsign a b ↔ b ≤ a) := by
  unfold am_lsign
  split
  · constructor <;> constructor <;> intro h <;> omega
  · split
    · constructor <;> constructor <;> intro h <;> omega
    · constructor <;> constructor <;> intro h <;> omega
theorem am_ld177 (hu : u = 0 ∨ u = 1) (A : ak_all us hc hm) (L : ak_LD u us hc hm) (k1 : hc.1 1 8 = 1) (k2 : hm.1 110 4 = 1) (r : ak_rr u us R hc hm) (h64 : ak_r64 x3) : ak_cI e (d + 9) [ak_T u, ρ1, ρ2, ak_T u, ak_T u + 1] 177 310 [am_i x0, am_i x1, am_i x2, am_l x3] hc hm [(0, 1), (1, 2), (2, 3)] R := by
  have rr := ak_RR_of hu A L k1 k2 r
  obtain ⟨h0, m0, b, n, m, Mt, z, S, O, B, T, sh, E, Et, G, φ, hr, lv, mt, Us, FR, tx, ag, ⟨hO, wd⟩, st, rm, jn⟩ := L
  have n1 : hc.1 1 8 ≠ 0 := by omega
  have n2 : hm.1 110 4 ≠ 0 := by omega
  obtain ⟨⟨a1, a2, a3, a4⟩, ⟨c1, c2, c3, c4⟩, _⟩ := ak_tx_now tx ag
  have us2 := A.1
  have hus := A.2.1
  have O2 := wd.2.2.2.1.1
  have w5 := wd.2.2.2.1.2.1
  have w6 := wd.2.2.2.1.2.2
  have hT := ak_T_bd hu
  -- refused
  have bad1 : (x1 < 0 ∨ 4 < x1) → ∃ c, (1, c) ∈ [(0, (1 : Int)), (1, 2), (2, 3)] ∧ ak_MI e 1 (d + 9) [ak_T u, ρ1, ρ2, ak_T u, ak_T u + 1] 310 [am_r 110, am_i x0, am_i x1, am_i x2, am_l x3] hm (fun _ hm' => R (ak_th hc) hm' ∧ hm'.1 110 0 = c) ak_F := by
    intro g
    exact ⟨2, by decide, ak_MI_of (Nat.le_of_ble_eq_true rfl) (am_k310_0 ⟨fun _ => ⟨fun _ => am_s198 ⟨rr.2 2, rfl⟩, fun g1 => ⟨fun g2 => absurd g (by omega), fun _ => am_s198 ⟨rr.2 2, rfl⟩⟩⟩, fun g => absurd g n2⟩)⟩
  have no3 : ∀ (P : Int → ak_S → Prop) (X : Nat → ak_S → Prop), (P 0 (ak_no hm 3)) → ak_W0 e 1 (d + 8) 310 [ak_T u, ρ1, ρ2, ak_T u, ak_T u + 1] 93 [some (am_r 110), some (am_i x0), some (am_i x1), some (am_i x2), some (am_l x3), none, none] [am_i 0] hm (ak_qi P X) :=
    fun P X q => am_k310_93 ⟨fun g => absurd rfl g, fun _ => am_s198 q⟩
  have bad2 : 0 ≤ x1 → x1 ≤ 4 → (x0 < 0 ∨ (O : Int) ≤ x0 ∨ (x1 ≤ 2 ∧ (x2 < 0 ∨ (z 6 : Int) ≤ x2)) ∨ (2 < x1 ∧ (x2 < 0 ∨ (O : Int) ≤ x2)) ∨ (x1 = 1 ∧ (x3 < 0 ∨ (Mt : Int) ≤ x3))) → ∃ c, (2, c) ∈ [(0, (1 : Int)), (1, 2), (2, 3)] ∧ ak_MI e 1 (d + 9) [ak_T u, ρ1, ρ2, ak_T u, ak_T u + 1] 310 [am_r 110, am_i x0, am_i x1, am_i x2, am_l x3] hm (fun _ hm' => R (ak_th hc) hm' ∧ hm'.1 110 0 = c) ak_F := by
    intro g0 g4 g
    refine ⟨3, by decide, ak_MI_of (Nat.le_of_ble_eq_true rfl) (am_k310_0 ⟨fun _ => ⟨fun g1 => absurd g0 (by omega), fun _ => ⟨fun _ => ?_, fun g1 => absurd g4 (by omega)⟩⟩, fun g => absurd g n2⟩)⟩
    have N := no3 (fun _ hm' => R (ak_th hc) hm' ∧ hm'.1 110 0 = 3) ak_F ⟨rr.2 3, rfl⟩
    have Y : (0 ≤ x0 ∧ x0 < (O : Int)) → (x1 ≤ 2 → 0 ≤ x2 ∧ x2 < (z 6 : Int)) → (2 < x1 → 0 ≤ x2 ∧ x2 < (O : Int)) → ak_W0 e 1 (d + 8) 310 [ak_T u, ρ1, ρ2, ak_T u, ak_T u + 1] 60 [some (am_r 110), some (am_i x0), some (am_i x1), some (am_i x2), some (am_l x3), none, none] [] hm (ak_qi (fun _ hm' => R (ak_th hc) hm' ∧ hm'.1 110 0 = 3) ak_F) := by
      intro y1 y2 y3
      have y4 : x1 = 1 ∧ (x3 < 0 ∨ (Mt : Int) ≤ x3) := by
        rcases g with g | g | g | g | g
        · omega
        · omega
        · have := y2 g.1; omega
        · have := y3 g.1; omega
        · exact g
      refine am_k310_60 ⟨fun g => absurd y4.1 g, fun _ => ?_⟩
      rw [hus, ak_natn, a2]
      refine ⟨fun _ => N, fun g1 => ⟨by omega, fun _ => N, fun g2 => ?_⟩⟩
      have l1 := ak_lsign_lt.2.mp g1
      have l2 := ak_lsign_lt.1.mp g2
      exact absurd y4.2 (by omega)
    refine am_s308 w6 (fun o1 o2 => ⟨fun g => absurd g (by decide), fun _ => ⟨fun g2 => ?_, fun g2 => ?_⟩⟩) (fun _ => ⟨fun _ => N, fun g => absurd rfl g⟩)
    · exact am_s309 hus us2 c2 (fun n1 n2 => ⟨fun g => absurd g (by decide), fun _ => Y ⟨o1, o2⟩ (fun _ => ⟨n1, n2⟩) (fun g3 => absurd g2 (by omega))⟩) (fun _ => ⟨fun _ => N, fun g => absurd rfl g⟩)
    · exact am_s308 w6 (fun n1 n2 => ⟨fun g => absurd g (by decide), fun _ => Y ⟨o1, o2⟩ (fun g3 => absurd g2 (by omega)) (fun _ => ⟨n1, n2⟩)⟩) (fun _ => ⟨fun _ => N, fun g => absurd rfl g⟩)
  -- done
  have good : 0 ≤ x1 → x1 ≤ 4 → (0 ≤ x0 ∧ x0 < (O : Int)) → (x1 ≤ 2 → 0 ≤ x2 ∧ x2 < (z 6 : Int)) → (2 < x1 → 0 ≤ x2 ∧ x2 < (O : Int)) → (x1 = 1 → 0 ≤ x3 ∧ x3 < (Mt : Int)) → ak_W0 e 0 (d + 8) 177 [ak_T u, ρ1, ρ2, ak_T u, ak_T u + 1] 87 [some (am_r 1), some (am_i x0), some (am_i x1), some (am_i x2), some (am_l x3), none] [] hc (ak_qi (fun v hc' => ak_MI e 1 (d + 9) [ak_T u, ρ1, ρ2, ak_T u, ak_T u + 1] 310 [am_r 110, am_i x0, am_i x1, am_i x2, am_l x3] hm (fun b hm' => R hc' hm' ∧ hm'.1 110 0 = 0 ∧ v = b) ak_F) (fun x hc' => ∃ c, (x, c) ∈ [(0, (1 : Int)), (1, 2), (2, 3)] ∧ ak_MI e 1 (d + 9) [ak_T u, ρ1, ρ2, ak_T u, ak_T u + 1] 310 [am_r 110, am_i x0, am_i x1, am_i x2, am_l x3] hm (fun _ hm' => R hc' hm' ∧ hm'.1 110 0 = c) ak_F)) := by
    intro g0 g4 y1 y2 y3 y4
    obtain ⟨o, rfl⟩ : ∃ o : Nat, x0 = (o : Int) := ⟨x0.toNat, by omega⟩
    obtain ⟨rv, hc2, hm2, S', T', sh', E', Et', G', r1, r2, r3, wd', st', fc, fm, gc, gm⟩ := lk_malter (e := e) (d := d) (ρ2 := [ak_T u, ρ1, ρ2, ak_T u, ak_T u + 1]) (u := u) (r1 := ρ1) (r2 := ρ2) (o := o) (op := x1) (x := x2) (sv := if x1 = 1 then 4 else 1) (wv := x3) (sv' := if x1 = 0 then 1 else 0) (wv' := if x1 < 2 then x3 else 0) (ak_WD_no (x := 0) wd) (ak_ST_no (x := 0) st) hu (by omega) ⟨g0, g4⟩ (fun g => y3 (by omega)) (fun g => by
      unfold ak_r64 at h64
      refine ⟨fun z => ?_, fun z => ?_⟩
      · have z0 : x1 = 0 := z
        subst z0
        exact ⟨rfl, rfl, ⟨by decide, by decide⟩, fun q => absurd q (by decide), fun q => absurd q (by decide), h64.1, h64.2⟩
      · have z0 : x1 = 1 := z
        subst z0
        exact ⟨rfl, rfl, (y4 rfl).1, (y4 rfl).2⟩)
    have f8 : hc2.1 1 8 = 1 := (fc.1 _ _ (by omega) (by omega) (by omega) (by omega)).trans k1
    have f4 : hm2.1 110 4 = 1 := (fm.1 110 4 (by omega) (by omega) (by omega)).trans k2
    have f0 : hm2.1 110 0 = 0 := fm.1 110 0 (by omega) (by omega) (by omega)
    have cF : ∀ q k, ¬ (q = 33 ∧ k = 4) → ¬ (34 ≤ q ∧ q ≤ 40) → ¬ (q = 44 ∧ (k = 4 ∨ k = 5)) → ¬ (q = 45 ∨ q = 47 ∨ q = 48) → hc2.1 q k = hc.1 q k := fc.1
    have cJ : ∀ q k, q ≠ 36 → q ≠ 46 → hc2.2.1 q k = hc.2.1 q k := fc.2.1
    have mF : ∀ q k, ¬ (q = 110 ∧ (k = 0 ∨ k = 53 ∨ k = 62 ∨ k = 64 ∨ k = 67 ∨ k = 78 ∨ k = 84)) → ¬ (141 ≤ q ∧ q ≤ 149) → ¬ (152 ≤ q ∧ q ≤ 172) → hm2.1 q k = hm.1 q k := fun q k a b c => (fm.1 q k (by omega) b c).trans (ak_up_out (by omega))
    have mJ : ∀ q k, q ≠ 146 → hm2.2.1 q k = hm.2.1 q k := fun q k a => fm.2.1 q k a
    have hA : ak_all us hc2 hm2 := ak_all_fr A (fun q k g => cF q k (by omega) (by omega) (by omega) (by omega)) (fun k => cJ 5 k (by omega) (by omega)) (fun q k g => mF q k (by omega) (by omega) (by omega)) ⟨_, st'.2.2.2.2.2.choose_spec.1⟩
    have hL : ak_LD u us hc2 hm2 := by
      refine ⟨h0, m0, b, n, m, Mt, z, S', O, B, T', sh', E', Et', G', φ, hr, lv, mt, Us, FR, tx, ak_agT_fr ag (fun q k g1 g2 => ⟨cF q k (by omega) (by omega) (by omega) (by omega), cJ q k (by omega) (by omega)⟩) (fun q k g => mF q k (by unfold ak_tmI at g; omega) (by unfold ak_tmI at g; omega) (by unfold ak_tmI at g; omega)), ⟨hO, wd'⟩, st', ?_, ?_⟩
      · exact ak_RM_fr rm (fun q k g1 g2 => ⟨cF q k (by omega) (by omega) (by omega) (by omega), cJ q k (by omega) (by omega)⟩) (fun q k g => ⟨mF q k (by omega) (by omega) (by omega), mJ q k (by omega)⟩)
      · exact ak_jn_fr jn (fun q k g1 g2 => ⟨cF q k (by omega) (by omega) (by omega) (by omega), cJ q k (by omega) (by omega)⟩) (fun q k g => ⟨mF q k (by omega) (by omega) (by omega), mJ q k (by omega)⟩)
    have fin : R hc2 hm2 := r hc2 hm2 (by rw [fc.2.2]; omega) (by rw [fc.2.2]; omega) hA hL f8 f4 (fun z => ⟨(cF 69 7 (by omega) (by omega) (by omega) (by omega)).trans z.1, (cF 69 8 (by omega) (by omega) (by omega) (by omega)).trans z.2⟩)
    have run : ak_MI e 1 (d + 9) [ak_T u, ρ1, ρ2, ak_T u, ak_T u + 1] 310 [am_r 110, am_i (o : Int), am_i x1, am_i x2, am_l x3] hm (fun b hm' => R hc2 hm' ∧ hm'.1 110 0 = 0 ∧ rv = b) ak_F := by
      have Z : ak_W0 e 1 (d + 8) 310 [ak_T u, ρ1, ρ2, ak_T u, ak_T u + 1] 93 [some (am_r 110), some (am_i (o : Int)), some (am_i x1), some (am_i x2), some (am_l x3), none, none] [am_i 1] hm (ak_qi (fun b hm' => R hc2 hm' ∧ hm'.1 110 0 = 0 ∧ rv = b) ak_F) := by
        refine am_k310_93 ⟨fun _ => ⟨fun g1 => ⟨fun g2 => ?_, fun g2 => ?_⟩, fun g1 => ⟨fun g2 => absurd g2 (by omega), fun _ => ?_⟩⟩, fun g => absurd g (by decide)⟩
        · rw [if_neg g1, if_neg (by omega)] at gm
          exact gm _ _ ⟨fin, f0, rfl⟩
        · rw [if_neg g1, if_pos g2] at gm
          exact gm _ _ ⟨fin, f0, rfl⟩
        · rw [if_pos g1, if_pos (by omega)] at gm
          exact gm _ _ ⟨fin, f0, rfl⟩
      have Y : ak_W0 e 1 (d + 8) 310 [ak_T u, ρ1, ρ2, ak_T u, ak_T u + 1] 60 [some (am_r 110), some (am_i (o : Int)), some (am_i x1), some (am_i x2), some (am_l x3), none, none] [] hm (ak_qi (fun b hm' => R hc2 hm' ∧ hm'.1 110 0 = 0 ∧ rv = b) ak_F) := by
        refine am_k310_60 ⟨fun _ => Z, fun g1 => ?_⟩
        rw [hus, ak_natn, a2]
        refine ⟨fun g => absurd (ak_lsign_lt.1.mp g) (by have := (y4 g1).1; omega), fun _ => ⟨by omega, fun g => absurd (ak_lsign_lt.2.mp g) (by have := (y4 g1).2; omega), fun _ => Z⟩⟩
      refine ak_MI_of (Nat.le_of_ble_eq_true rfl) (am_k310_0 ⟨fun _ => ⟨fun g1 => absurd g0 (by omega), fun _ => ⟨fun _ => ?_, fun g1 => absurd g4 (by omega)⟩⟩, fun g => absurd g n2⟩)
      refine am_s308 w6 (fun _ _ => ⟨fun g => absurd g (by decide), fun _ => ⟨fun g2 => ?_, fun g2 => ?_⟩⟩) (fun g => absurd y1 (by omega))
      · exact am_s309 hus us2 c2 (fun _ _ => ⟨fun g => absurd g (by decide), fun _ => Y⟩) (fun g => absurd (y2 g2) (by omega))
      · exact am_s308 w6 (fun _ _ => ⟨fun g => absurd g (by decide), fun _ => Y⟩) (fun g => absurd (y3 g2) (by omega))
    have gc' := ak_MI_deep (show d + 5 ≤ d + 8 by omega) (gc (fun v hc' => ak_MI e 1 (d + 9) [ak_T u, ρ1, ρ2, ak_T u, ak_T u + 1] 310 [am_r 110, am_i (o : Int), am_i x1, am_i x2, am_l x3] hm (fun b hm' => R hc' hm' ∧ hm'.1 110 0 = 0 ∧ v = b) ak_F) (fun _ _ => False) run)
    refine am_k177_87 hu ⟨fun g1 => ?_, fun g1 => ?_⟩
    · rw [if_neg g1] at gc'
      exact gc'
    · rw [if_pos g1] at gc'
      exact gc'
  have mid : 0 ≤ x1 → x1 ≤ 4 → (0 ≤ x0 ∧ x0 < (O : Int)) → ∀ bd : Int, (x1 ≤ 2 → bd = (z 6 : Int)) → (2 < x1 → bd = (O : Int)) → ak_W0 e 0 (d + 8) 177 [ak_T u, ρ1, ρ2, ak_T u, ak_T u + 1] 48 [some (am_r 1), some (am_i x0), some (am_i x1), some (am_i x2), some (am_l x3), none] [am_i bd, am_i x2] hc (ak_qi (fun v hc' => ak_MI e 1 (d + 9) [ak_T u, ρ1, ρ2, ak_T u, ak_T u + 1] 310 [am_r 110, am_i x0, am_i x1, am_i x2, am_l x3] hm (fun b hm' => R hc' hm' ∧ hm'.1 110 0 = 0 ∧ v = b) ak_F) (fun x hc' => ∃ c, (x, c) ∈ [(0, (1 : Int)), (1, 2), (2, 3)] ∧ ak_MI e 1 (d + 9) [ak_T u, ρ1, ρ2, ak_T u, ak_T u + 1] 310 [am_r 110, am_i x0, am_i x1, am_i x2, am_l x3] hm (fun _ hm' => R hc' hm' ∧ hm'.1 110 0 = c) ak_F)) := by
    intro g0 g4 y1 bd q1 q2
    refine am_k177_48 hu (am_s193 hu (fun p1 p2 => ⟨fun g => ?_, fun g => ?_⟩) (fun p => bad2 g0 g4 (by omega)))
    · exact good g0 g4 y1 (fun g2 => by rw [← q1 g2]; exact ⟨p1, p2⟩) (fun g2 => by rw [← q2 g2]; exact ⟨p1, p2⟩) (fun g2 => absurd g2 g)
    · refine ⟨fun l => bad2 g0 g4 (by have := ak_lsign_lt.1.mp l; omega), fun l => ?_⟩
      rw [a1]
      refine ⟨fun l2 => good g0 g4 y1 (fun g2 => by rw [← q1 g2]; exact ⟨p1, p2⟩) (fun g2 => by rw [← q2 g2]; exact ⟨p1, p2⟩) (fun g2 => ⟨ak_lsign_lt.2.mp l, ak_lsign_lt.1.mp l2⟩), fun l2 => bad2 g0 g4 (by have := ak_lsign_lt.2.mp l2; omega)⟩
  refine ak_MI_of (Nat.le_of_ble_eq_true rfl) (am_k177_0 hu (am_s192 hu (fun _ => am_s194 hu (fun p1 p2 => ?_) (fun p => bad1 (by omega))) (fun g => absurd g n1)))
  rw [w5]
  refine am_s193 hu (fun p3 p4 => ?_) (fun p => bad2 p1 (by omega) (by omega))
  rw [w5, c1]
  exact ⟨fun g => mid p1 (by omega) ⟨p3, p4⟩ _ (fun g2 => absurd g2 (by omega)) (fun _ => rfl), fun g => ⟨fun g2 => mid p1 (by omega) ⟨p3, p4⟩ _ (fun _ => rfl) (fun g3 => absurd g3 (by omega)), fun g2 => mid p1 (by omega) ⟨p3, p4⟩ _ (fun g2 => absurd g2 (by omega)) (fun _ => rfl)⟩⟩
end CHG
