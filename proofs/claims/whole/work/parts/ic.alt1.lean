/-! the run: an object is changed, each side -/
section ALT1
variable {e : ak_X3} {d ρ1 ρ2 P W y n N T0 o i k A a u us S O B Mt : Nat} {ρ : List Nat} {c : ak_Cx} {g : ak_Gh} {V : List Nat} {fs : List ak_Fr} {f : ak_Fr} {h h1 h2 hP hP1 hc hm hc' hm' hc2 hm2 hcS hmS : ak_S} {j : ak_Jb} {r : List ak_Jb} {v v2 : Bool × Int × Int} {s w s2 w2 nm op x x2 sv wv sv' wv' q7 : Int} {X : Nat → ak_S → Prop} {Q : ak_S → Prop}
/-- the one: a slot -/
theorem am_c95a (hu : u = 0 ∨ u = 1) (h10 : h.1 32 10 = ((A + 2 : Nat) : Int)) (hA : A + 2 ≤ 9060) (eP : hP = ak_szC (ak_szC h (A + 1)) A) (r1 : h.1 108 A = s) (r2 : h.2.1 109 A = w) (r3 : h.1 108 (A + 1) = s2) (r4 : h.2.1 109 (A + 1) = w2) (hO : h.1 33 0 = (O : Int)) (hO2 : O ≤ 200) (vk : ak_vok O B s w)
    (q6 : s ≠ 2 → ak_MV e 0 (d + 1) (ak_rc u ρ1 ρ2) 77 [am_r 32, am_i 6, am_i 0, am_l 0] hP Q (fun _ _ => False)) (q : s = 2 → ak_MI e 0 (d + 1) (ak_rc u ρ1 ρ2) 71 [am_r 32, am_i 0, am_i w, am_i x2, am_i s2, am_l w2] hP (fun v h' => (v = 0 → Q h') ∧ (v ≠ 0 → ak_MV e 0 (d + 1) (ak_rc u ρ1 ρ2) 77 [am_r 32, am_i v, am_i 0, am_l 0] h' Q (fun _ _ => False))) (fun _ _ => False)) : ak_MV e 0 (d + 2) (ak_rc u ρ1 ρ2) 95 [am_r 32, am_i 21, am_i x2] h Q X := by
  have PO : ∀ q k, ¬ (q = 32 ∧ k = 10) → hP.1 q k = h.1 q k := fun q k a => by rw [eP]; exact (ak_szC_o a).trans (ak_szC_o a)
  have P2 : hP.2 = h.2 := by rw [eP]; rfl
  refine ak_MV_of (Nat.le_of_ble_eq_true rfl) (am_k95_0 hu ⟨fun z => absurd z (by decide), fun _ => ⟨fun _ => ⟨fun z => absurd z (by decide), fun _ => ⟨fun _ => am_s74 (d := d) (n := A + 1) hu h10 (by omega) (am_k95_38 hu (am_s74 (d := d) (n := A) hu ak_szC_v (by omega) ?_)), fun z => absurd z (by decide)⟩⟩, fun z => absurd z (by decide)⟩⟩)
  rw [← eP, ak_natn, PO 108 A (by omega), r1, P2, r2]
  refine ⟨by omega, by omega, am_s151 (d := d) ((PO _ _ (by omega)).trans hO) hO2 vk (fun g2 => ?_) (fun g2 => ?_)⟩
  · have hw := vk.2.1 g2
    refine ⟨fun _ => am_k95_98 hu ⟨fun z => absurd z (by omega), fun _ => ⟨fun _ => ⟨trivial, fun z => absurd z (by decide), fun _ => ?_, fun z => absurd z (by decide), fun z => absurd z (by decide), fun z => absurd z (by decide), trivial⟩, fun z => absurd z (by decide)⟩⟩, fun z => absurd rfl z⟩
    rw [ak_natn, PO 108 _ (by omega), r3, P2, r4]
    exact ⟨by omega, by omega, q g2⟩
  · exact ⟨fun _ => am_k95_98 hu ⟨fun _ => q6 g2, fun z => absurd z (by decide)⟩, fun z => absurd rfl z⟩
/-- the one: a method comes, an item goes -/
theorem am_c95b {x1 : Int} (hu : u = 0 ∨ u = 1) (h10 : h.1 32 10 = ((A + 1 : Nat) : Int)) (hA : A + 1 ≤ 9060) (eP : hP = ak_szC h A) (r1 : h.1 108 A = s) (r2 : h.2.1 109 A = w) (hO : h.1 33 0 = (O : Int)) (hO2 : O ≤ 200) (vk : ak_vok O B s w) (hx : x1 = 22 ∨ x1 = 23)
    (q6 : s ≠ 2 → ak_MV e 0 (d + 1) (ak_rc u ρ1 ρ2) 77 [am_r 32, am_i 6, am_i 0, am_l 0] hP Q (fun _ _ => False)) (q22 : s = 2 → x1 = 22 → ak_MI e 0 (d + 1) (ak_rc u ρ1 ρ2) 71 [am_r 32, am_i 1, am_i w, am_i ((Int32.ofInt x2 &&& Int32.ofInt 127).toInt), am_i 4, am_l ((Int32.ofInt x2 >>> (Int32.ofInt 7 &&& 31)).toInt)] hP (fun v h' => (v = 0 → Q h') ∧ (v ≠ 0 → ak_MV e 0 (d + 1) (ak_rc u ρ1 ρ2) 77 [am_r 32, am_i v, am_i 0, am_l 0] h' Q (fun _ _ => False))) (fun _ _ => False))
    (q23 : s = 2 → x1 = 23 → ak_MI e 0 (d + 1) (ak_rc u ρ1 ρ2) 71 [am_r 32, am_i 2, am_i w, am_i x2, am_i 0, am_l 0] hP (fun v h' => (v = 0 → Q h') ∧ (v ≠ 0 → ak_MV e 0 (d + 1) (ak_rc u ρ1 ρ2) 77 [am_r 32, am_i v, am_i 0, am_l 0] h' Q (fun _ _ => False))) (fun _ _ => False)) : ak_MV e 0 (d + 2) (ak_rc u ρ1 ρ2) 95 [am_r 32, am_i x1, am_i x2] h Q X := by
  have PO : ∀ q k, ¬ (q = 32 ∧ k = 10) → hP.1 q k = h.1 q k := fun q k a => by rw [eP]; exact ak_szC_o a
  have P2 : hP.2 = h.2 := by rw [eP]; rfl
  have L : ak_W0 e 0 (d + 1) 95 (ak_rc u ρ1 ρ2) 38 [some (am_r 32), some (am_i x1), some (am_i x2), some (am_i 0), none, none, none, none, none] [am_i 0] h (ak_qv Q X) := by
    refine am_k95_38 hu (am_s74 (d := d) (n := A) hu h10 (by omega) ?_)
    rw [← eP, ak_natn, PO 108 A (by omega), r1, P2, r2]
    refine ⟨by omega, by omega, am_s151 (d := d) ((PO _ _ (by omega)).trans hO) hO2 vk (fun g2 => ?_) (fun g2 => ?_)⟩
    · have hw := vk.2.1 g2
      exact ⟨fun _ => am_k95_98 hu ⟨fun z => absurd z (by omega), fun _ => ⟨fun _ => ⟨trivial, fun z => absurd z (by omega), fun z => absurd z (by omega), fun z => q22 g2 (by omega), fun z => q23 g2 (by omega), fun z => absurd z (by omega), trivial⟩, fun z => absurd z (by decide)⟩⟩, fun z => absurd rfl z⟩
    · exact ⟨fun _ => am_k95_98 hu ⟨fun _ => q6 g2, fun z => absurd z (by decide)⟩, fun z => absurd rfl z⟩
  exact ak_MV_of (Nat.le_of_ble_eq_true rfl) (am_k95_0 hu ⟨fun z => absurd z (by omega), fun _ => ⟨fun _ => ⟨fun _ => L, fun z => ⟨fun z2 => absurd z2 (by omega), fun _ => L⟩⟩, fun z => absurd z (by omega)⟩⟩)
/-- the one: a parent comes, goes -/
theorem am_c95c {x1 : Int} (hu : u = 0 ∨ u = 1) (h10 : h.1 32 10 = ((A + 2 : Nat) : Int)) (hA : A + 2 ≤ 9060) (eP : hP = ak_szC (ak_szC h (A + 1)) A) (r1 : h.1 108 A = s) (r2 : h.2.1 109 A = w) (r3 : h.1 108 (A + 1) = s2) (r4 : h.2.1 109 (A + 1) = w2) (hO : h.1 33 0 = (O : Int)) (hO2 : O ≤ 200) (vk : ak_vok O B s w) (vk2 : ak_vok O B s2 w2) (hx : x1 = 24 ∨ x1 = 25)
    (q6 : ¬ (s = 2 ∧ s2 = 2) → ak_MV e 0 (d + 1) (ak_rc u ρ1 ρ2) 77 [am_r 32, am_i 6, am_i 0, am_l 0] hP Q (fun _ _ => False)) (q : s = 2 → s2 = 2 → ak_MI e 0 (d + 1) (ak_rc u ρ1 ρ2) 71 [am_r 32, am_i (x1 - 21), am_i w, am_i w2, am_i 0, am_l 0] hP (fun v h' => (v = 0 → Q h') ∧ (v ≠ 0 → ak_MV e 0 (d + 1) (ak_rc u ρ1 ρ2) 77 [am_r 32, am_i v, am_i 0, am_l 0] h' Q (fun _ _ => False))) (fun _ _ => False)) : ak_MV e 0 (d + 2) (ak_rc u ρ1 ρ2) 95 [am_r 32, am_i x1, am_i x2] h Q X := by
  have PO : ∀ q k, ¬ (q = 32 ∧ k = 10) → hP.1 q k = h.1 q k := fun q k a => by rw [eP]; exact (ak_szC_o a).trans (ak_szC_o a)
  have P2 : hP.2 = h.2 := by rw [eP]; rfl
  have L : ak_W0 e 0 (d + 1) 95 (ak_rc u ρ1 ρ2) 12 [some (am_r 32), some (am_i x1), some (am_i x2), none, none, none, none, none, none] [] h (ak_qv Q X) := by
    refine am_k95_12 hu ⟨fun z => absurd z (by omega), fun _ => ⟨fun _ => am_s74 (d := d) (n := A + 1) hu h10 (by omega) (am_k95_38 hu (am_s74 (d := d) (n := A) hu ak_szC_v (by omega) ?_)), fun z => absurd z (by omega)⟩⟩
    rw [← eP, ak_natn, PO 108 A (by omega), r1, P2, r2]
    refine ⟨by omega, by omega, am_s151 (d := d) ((PO _ _ (by omega)).trans hO) hO2 vk (fun g2 => ⟨fun z => absurd z (by decide), fun _ => ?_⟩) (fun g2 => ⟨fun z => absurd z (by decide), fun _ => ?_⟩)⟩
    · have hw := vk.2.1 g2
      rw [ak_natn, PO 108 _ (by omega), r3, P2, r4]
      refine ⟨by omega, by omega, am_s151 (d := d) ((PO _ _ (by omega)).trans hO) hO2 vk2 (fun g3 => ?_) (fun g3 => ?_)⟩
      · have hw2 := vk2.2.1 g3
        refine am_k95_98 hu ⟨fun z => absurd z (by omega), fun _ => ⟨fun _ => ⟨trivial, fun z => ?_, fun z => absurd z (by omega), fun z => absurd z (by omega), fun z => absurd z (by omega), fun z => ?_, trivial⟩, fun z => absurd z (by omega)⟩⟩
        · have q' := q g2 g3
          rw [show x1 - 21 = 4 by omega] at q'
          exact q'
        · have q' := q g2 g3
          rw [show x1 - 21 = 3 by omega] at q'
          exact q'
      · exact am_k95_98 hu ⟨fun _ => q6 (fun z => g3 z.2), fun _ => ⟨fun z => absurd z (by decide), fun _ => q6 (fun z => g3 z.2)⟩⟩
    · rw [ak_natn, PO 108 _ (by omega), r3, P2, r4]
      exact ⟨by omega, by omega, am_s151 (d := d) ((PO _ _ (by omega)).trans hO) hO2 vk2 (fun g3 => am_k95_98 hu ⟨fun _ => q6 (fun z => g2 z.1), fun z => absurd z (by decide)⟩) (fun g3 => am_k95_98 hu ⟨fun _ => q6 (fun z => g2 z.1), fun z => absurd z (by decide)⟩)⟩
  exact ak_MV_of (Nat.le_of_ble_eq_true rfl) (am_k95_0 hu ⟨fun _ => L, fun z => ⟨fun z2 => absurd hx (by omega), fun _ => L⟩⟩)
/-- the other -/
theorem am_m296 (y18 : y < 18000) (h114 : h.1 114 y = q7) (hq : 24 ≤ q7 ∧ q7 ≤ 28) (h127 : h.1 110 127 = ((T0 + (if q7 = 25 ∨ q7 = 26 then 1 else 2) : Nat) : Int)) (hT : T0 + 1 ≤ 9060) (r1 : h.1 199 T0 = s) (r2 : h.2.1 200 T0 = w) (r3 : ¬ (q7 = 25 ∨ q7 = 26) → h.1 199 (T0 + 1) = s2 ∧ h.2.1 200 (T0 + 1) = w2) (hO2 : O ≤ 200) (vk : ak_vok O B s w) (vk2 : ¬ (q7 = 25 ∨ q7 = 26) → ak_vok O B s2 w2)
    (q6 : (s ≠ 2 ∨ (27 ≤ q7 ∧ s2 ≠ 2)) → ak_MV e 1 (d + 1) ρ 270 [am_r 110, am_i 6] h Q (fun _ _ => False)) (q : s = 2 → (27 ≤ q7 → s2 = 2) → ak_MI e 1 (d + 1) ρ 297 [am_r 110, am_i w, am_i (q7 - 24), am_i (if 27 ≤ q7 then w2 else h.1 117 y), am_i (if q7 = 24 then s2 else 0), am_l (if q7 = 24 then w2 else if q7 = 25 then h.1 118 y else 0)] h (fun v h' => (v ≤ 0 → Q (am_up h'.1 110 127 (T0 : Int), h'.2)) ∧ (0 < v → ak_MV e 1 (d + 1) ρ 270 [am_r 110, am_i v] h' Q (fun _ _ => False))) (fun _ _ => False)) : ak_MV e 1 (d + 2) ρ 296 [am_r 110, am_i (y : Int)] h Q X := by
  have yb : 0 ≤ (y : Int) ∧ (y : Int) < 18000 := by omega
  have tb : 0 ≤ (T0 : Int) ∧ (T0 : Int) < 20000 := by omega
  have tb1 : 0 ≤ ((T0 + 1 : Nat) : Int) ∧ ((T0 + 1 : Nat) : Int) < 20000 := by omega
  have w1 : q7 = 25 ∨ q7 = 26 → am_w32 ((h.1 110 127) - 1) = (T0 : Int) := fun z => by rw [h127, if_pos z]; exact ak_t1 (by omega)
  have w2' : ¬ (q7 = 25 ∨ q7 = 26) → am_w32 ((h.1 110 127) - 2) = (T0 : Int) ∧ am_w32 ((h.1 110 127) - 1) = ((T0 + 1 : Nat) : Int) := fun z => by rw [h127, if_neg z]; exact ak_t2 (by omega)
  clear h127
  -- the change itself
  have L125 : s = 2 → (27 ≤ q7 → s2 = 2) → ∀ x4 : Int, x4 = (if 27 ≤ q7 then 1 else 0) → ak_W0 e 1 (d + 1) 296 ρ 125 [some (am_r 110), some (am_i (y : Int)), none, some (am_i (T0 : Int)), some (am_i x4), none, none, none, none] [] h (ak_qv Q X) := by
    intro gs gs2 x4 hx4
    have qq := q gs gs2
    have ew : am_w32 w = w := ak_w w (by have := vk.2.1 gs; omega)
    rcases (show q7 = 24 ∨ q7 = 25 ∨ q7 = 26 ∨ q7 = 27 ∨ q7 = 28 by omega) with z | z | z | z | z
    · subst z
      obtain ⟨a1, a2⟩ := w2' (by decide)
      obtain ⟨a3, a4⟩ := r3 (by decide)
      clear w1 w2'
      refine am_k296_125 ?_
      rw [ak_natn, ak_natn, h114, r2, ew]
      refine ⟨tb, yb, fun z => absurd rfl z, fun _ => am_k296_195 ⟨fun _ => ?_, fun z => absurd hx4 z⟩⟩
      rw [ak_natn]
      refine ⟨yb, am_k296_223 ⟨fun z => absurd rfl z, fun _ => ?_⟩⟩
      rw [a2, ak_natn, a3]
      refine ⟨tb1, am_k296_252 ⟨fun z => absurd rfl z, fun _ => ?_⟩⟩
      rw [a2, ak_natn, a4]
      exact ⟨tb1, qq⟩
    · subst z
      clear w1 w2'
      refine am_k296_125 ?_
      rw [ak_natn, ak_natn, h114, r2, ew]
      refine ⟨tb, yb, fun _ => ⟨yb, fun z => absurd rfl z, fun _ => am_k296_195 ⟨fun _ => ?_, fun z => absurd hx4 z⟩⟩, fun z => absurd z (by decide)⟩
      rw [ak_natn]
      refine ⟨yb, am_k296_223 ⟨fun _ => am_k296_252 ⟨fun _ => ⟨fun z => absurd rfl z, fun _ => ?_⟩, fun z => absurd z (by decide)⟩, fun z => absurd z (by decide)⟩⟩
      rw [ak_natn]
      exact ⟨yb, qq⟩
    · subst z
      clear w1 w2'
      refine am_k296_125 ?_
      rw [ak_natn, ak_natn, h114, r2, ew]
      refine ⟨tb, yb, fun _ => ⟨yb, fun _ => ⟨yb, fun z => absurd rfl z, fun _ => am_k296_195 ⟨fun _ => ?_, fun z => absurd hx4 z⟩⟩, fun z => absurd z (by decide)⟩, fun z => absurd z (by decide)⟩
      rw [ak_natn]
      exact ⟨yb, am_k296_223 ⟨fun _ => am_k296_252 ⟨fun _ => ⟨fun _ => qq, fun z => absurd z (by decide)⟩, fun z => absurd z (by decide)⟩, fun z => absurd z (by decide)⟩⟩
    · subst z
      obtain ⟨a1, a2⟩ := w2' (by decide)
      obtain ⟨a3, a4⟩ := r3 (by decide)
      have ew2 : am_w32 w2 = w2 := ak_w w2 (by have := (vk2 (by decide)).2.1 (gs2 (by decide)); omega)
      clear w1 w2'
      refine am_k296_125 ?_
      rw [ak_natn, ak_natn, h114, r2, ew]
      refine ⟨tb, yb, fun _ => ⟨yb, fun _ => ⟨yb, fun _ => ⟨yb, fun z => absurd rfl z, fun _ => am_k296_195 ⟨fun z => absurd (hx4.symm.trans z) (by decide), fun _ => ?_⟩⟩, fun z => absurd z (by decide)⟩, fun z => absurd z (by decide)⟩, fun z => absurd z (by decide)⟩
      rw [a2, ak_natn, a4, ew2]
      exact ⟨tb1, am_k296_223 ⟨fun _ => am_k296_252 ⟨fun _ => ⟨fun _ => qq, fun z => absurd z (by decide)⟩, fun z => absurd z (by decide)⟩, fun z => absurd z (by decide)⟩⟩
    · subst z
      obtain ⟨a1, a2⟩ := w2' (by decide)
      obtain ⟨a3, a4⟩ := r3 (by decide)
      have ew2 : am_w32 w2 = w2 := ak_w w2 (by have := (vk2 (by decide)).2.1 (gs2 (by decide)); omega)
      clear w1 w2'
      refine am_k296_125 ?_
      rw [ak_natn, ak_natn, h114, r2, ew]
      refine ⟨tb, yb, fun _ => ⟨yb, fun _ => ⟨yb, fun _ => ⟨yb, fun _ => am_k296_195 ⟨fun z => absurd (hx4.symm.trans z) (by decide), fun _ => ?_⟩, fun z => absurd z (by decide)⟩, fun z => absurd z (by decide)⟩, fun z => absurd z (by decide)⟩, fun z => absurd z (by decide)⟩
      rw [a2, ak_natn, a4, ew2]
      exact ⟨tb1, am_k296_223 ⟨fun _ => am_k296_252 ⟨fun _ => ⟨fun _ => qq, fun z => absurd z (by decide)⟩, fun z => absurd z (by decide)⟩, fun z => absurd z (by decide)⟩⟩
  have L86 : ∀ y0 : Int, y0 = (if 27 ≤ q7 then 1 else 0) → ak_W0 e 1 (d + 1) 296 ρ 86 [some (am_r 110), some (am_i (y : Int)), none, some (am_i (T0 : Int)), none, none, none, none, none] [am_i y0] h (ak_qv Q X) := by
    intro y0 hy0
    refine am_k296_86 ?_
    rw [ak_natn, r1]
    refine ⟨tb, fun z => q6 (Or.inl z), fun gs => ⟨fun z => L125 gs (fun g => absurd (hy0.symm.trans z) (by rw [if_pos g]; decide)) _ hy0, fun z => ?_⟩⟩
    have g27 : 27 ≤ q7 := by
      by_cases g : 27 ≤ q7
      · exact g
      · exact absurd (hy0.trans (if_neg g)) z
    rw [(w2' (by omega)).2, ak_natn, (r3 (by omega)).1]
    exact ⟨tb1, fun gs2 => L125 gs (fun _ => gs2) _ hy0, fun gs2 => q6 (Or.inr ⟨g27, gs2⟩)⟩
  have L58 : ak_W0 e 1 (d + 1) 296 ρ 58 [some (am_r 110), some (am_i (y : Int)), none, none, none, none, none, none, none] [am_i (T0 : Int)] h (ak_qv Q X) := by
    clear w1 w2'
    refine am_k296_58 ?_
    rw [ak_natn, h114]
    refine ⟨yb, fun z => L86 _ (by rw [if_pos (by omega)]), fun z => ⟨yb, fun z2 => L86 _ (by rw [if_neg (by omega)]), fun z2 => L86 _ (by rw [if_pos (by omega)])⟩⟩
  refine ak_MV_of (Nat.le_of_ble_eq_true rfl) (am_k296_0 ?_)
  rw [ak_natn, h114]
  refine ⟨yb, fun z => ⟨fun z2 => absurd z2 (by decide), fun _ => ?_⟩, fun z => ⟨yb, fun z2 => ⟨fun z3 => absurd z3 (by decide), fun _ => ?_⟩, fun z2 => ⟨yb, fun z3 => ⟨fun _ => ?_, fun z4 => absurd rfl z4⟩, fun z3 => ⟨fun z4 => absurd z4 (by decide), fun _ => ?_⟩⟩⟩⟩
  · rw [(w2' (by clear w1 w2'; omega)).1]; exact L58
  · rw [(w2' (by clear w1 w2'; omega)).1]; exact L58
  · rw [w1 (by clear w1 w2'; omega)]; exact L58
  · rw [(w2' (by clear w1 w2'; omega)).1]; exact L58
end ALT1
