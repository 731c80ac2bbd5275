/-! the calls astray and nameByte -/
section STRAY
variable {e : ak_X3} {d ρ1 ρ2 u us S O B Mt n m NS : Nat} {ρ : List Nat} {T : Nat → List (Int × Int)} {sh : Nat → Nat} {h hc hm hc' hm' h0 m0 : ak_S} {E : Nat → List ak_E} {Et : List ak_E} {G : List (Int × Int × Int × Int)} {φ hr lv mt : Nat → Nat} {Us FR : List Nat} {b : Nat → Int} {z : Nat → Nat} {R : ak_S → ak_S → Prop} {x0 x1 x2 x3 : Int}
theorem ak_luF_refl : ak_luF h h := ⟨fun _ _ _ _ => rfl, fun _ _ _ => rfl, rfl⟩
theorem ak_luM_refl : ak_luM h h := ⟨fun _ _ _ _ => rfl, rfl⟩
theorem ak_ST_luF (st : ak_ST S O NS us T sh E Et G hc hm) (f : ak_luF hc hc') : ak_ST S O NS us T sh E Et G hc' hm := ak_ST_fr st (fun q k g => f.1 q k (by omega) (by omega)) (fun k => f.2.1 46 k (by omega)) (fun _ _ _ => rfl)
theorem ak_WD_luF (wd : ak_WD S O B Mt T sh hc hm) (f : ak_luF hc hc') : ak_WD S O B Mt T sh hc' hm := ak_WD_fr wd ⟨fun q k g => f.1 q k (by omega) (by omega), fun k => f.2.1 36 k (by omega)⟩ ⟨fun _ _ _ => rfl, fun _ => rfl⟩
theorem ak_ST_luM (st : ak_ST S O NS us T sh E Et G hc hm) (f : ak_luM hm hm') (l : ak_ly S O T sh hm') : ak_ST S O NS us T sh E Et G hc hm' := ak_ST_fr2 st (fun _ _ _ => rfl) (fun _ => rfl) (fun q k g => f.1 q k (by omega) (by omega)) l
theorem ak_WD_luM (wd : ak_WD S O B Mt T sh hc hm) (f : ak_luM hm hm') : ak_WD S O B Mt T sh hc hm' := ak_WD_fr wd ⟨fun _ _ _ => rfl, fun _ => rfl⟩ ⟨fun q k g => f.1 q k (by omega) (by omega), fun k => by rw [f.2]⟩
/-- no entry of the one is astray -/
theorem am_s119 {Q : Int → ak_S → Prop} {X : Nat → ak_S → Prop} (wd : ak_WD S O B Mt T sh h hm) (st : ak_ST S O NS us T sh E Et G h hm) (q : ∀ h', ak_luF h h' → Q 0 h') : ak_MI e 0 (d + 4) ρ 119 [am_r 44, am_r 33] h Q X := by
  have O2 := wd.2.2.2.1.1
  have en0 : ∀ i, NS ≤ i → i < 150 → E i = [] := fun i a b => (st.2.1 i b).1.2.1 a
  have lp : ∀ (c n : Nat) (h1 : ak_S), n + c = 151 → ak_luF h h1 → ak_W0 e 0 (d + 3) 119 ρ 4 [some (am_r 44), some (am_r 33), some (am_i 0), some (am_i ((n : Int) - 1)), none, none, none] [] h1 (ak_qi Q X) := by
    intro c
    induction c with
    | zero =>
      intro n h1 hn f
      exact am_k119_4 ⟨fun _ => q h1 f, fun g => absurd g (by omega)⟩
    | succ c ih =>
      intro n h1 hn f
      refine am_k119_4 ⟨fun g => absurd g (by omega), fun _ => am_s108 (by omega) ?_⟩
      have lp2 : ∀ (c2 k : Nat) (h2 : ak_S), k + c2 = (ak_el E Et ((n : Int) - 1)).length → ak_luF h h2 → ak_W0 e 0 (d + 3) 119 ρ 20 [some (am_r 44), some (am_r 33), some (am_i 0), some (am_i ((n : Int) - 1)), some (am_i (ak_ef ((n : Int) - 1) : Int)), some (am_i (k : Int)), none] [] h2 (ak_qi Q X) := by
        intro c2
        induction c2 with
        | zero =>
          intro k h2 hk f2
          have st2 := ak_ST_luF st f2
          refine am_k119_20 (am_s109 st2 (by omega) ⟨fun _ => ?_, fun g => absurd g (by omega)⟩)
          rw [show am_w32 ((n : Int) - 1 + 1) = ((n + 1 : Nat) : Int) - 1 from by
            rw [ak_w _ (by omega)]
            omega]
          exact ih (n + 1) h2 (by omega) f2
        | succ c2 ih2 =>
          intro k h2 hk f2
          have st2 := ak_ST_luF st f2
          have wd2 := ak_WD_luF wd f2
          have hns : (n : Int) - 1 < (NS : Int) := by
            by_cases g : (n : Int) - 1 < (NS : Int)
            · exact g
            · have : ak_el E Et ((n : Int) - 1) = [] := by
                unfold ak_el
                rw [if_neg (by omega)]
                exact en0 _ (by omega) (by omega)
              rw [this] at hk
              exact absurd hk (by show ¬ (k + (c2 + 1) = 0); omega)
          obtain ⟨en, p1, p2, p3, p4, p5⟩ := ak_el_get (x1 := (n : Int) - 1) (x2 := (k : Int)) st2 ⟨by omega, hns⟩ ⟨by omega, by omega⟩
          rw [ak_natn] at p1 p5
          obtain ⟨c0, c1, c2', c3, c4⟩ := p1
          refine am_k119_20 (am_s109 st2 (by omega) ⟨fun g => absurd g (by omega), fun _ => ?_⟩)
          generalize ak_ef ((n : Int) - 1) = f at p5 c0 c1 c2' c3 c4 ih2 ⊢
          have b1 : am_w32 (am_w32 ((f : Int) + (k : Int)) * 5) = ((5 * (f + k) : Nat) : Int) := by
            rw [ak_w ((f : Int) + (k : Int)) (by omega), ak_w _ (by omega)]
            omega
          have j0 : am_w32 (((5 * (f + k) : Nat) : Int) + 0) = ((5 * (f + k) : Nat) : Int) := by rw [ak_w _ (by omega)]; omega
          have j1 : am_w32 (((5 * (f + k) : Nat) : Int) + 1) = ((5 * (f + k) + 1 : Nat) : Int) := by rw [ak_w _ (by omega)]; omega
          have j2 : am_w32 (((5 * (f + k) : Nat) : Int) + 2) = ((5 * (f + k) + 2 : Nat) : Int) := by rw [ak_w _ (by omega)]; omega
          have j3 : am_w32 (((5 * (f + k) : Nat) : Int) + 3) = ((5 * (f + k) + 3 : Nat) : Int) := by rw [ak_w _ (by omega)]; omega
          have j4 : am_w32 (((5 * (f + k) : Nat) : Int) + 4) = ((5 * (f + k) + 4 : Nat) : Int) := by rw [ak_w _ (by omega)]; omega
          rw [b1, j0, j1, j2, j3, j4, ak_natn, ak_natn, ak_natn, ak_natn, ak_natn, c0, c1, c4, ak_wj (show k < 1000000 by omega)]
          have hk5 : ∀ j : Nat, j ≤ 4 → (0 : Int) ≤ ((5 * (f + k) + j : Nat) : Int) ∧ ((5 * (f + k) + j : Nat) : Int) < 3640 := fun j hj => by omega
          clear b1 j0 j1 j2 j3 j4
          refine ⟨hk5 0 (by decide), hk5 4 (by decide), hk5 1 (by decide), ?_⟩
          refine am_s164 (d := d) wd2.1 wd2.2.1 O2 (ak_obs wd2).2 p4.1 p4.2.1.1 (fun h3 r1 r2 _ f3 => ?_)
          have q45 : ∀ j, h3.1 45 j = h2.1 45 j := fun j => f3.1 45 j (by omega) (by omega)
          rw [q45, q45, c2', c3, r1, r2, ← p4.2.1.2]
          exact ⟨hk5 2 (by decide), fun g => absurd rfl g, fun _ => ⟨hk5 3 (by decide), fun _ => ih2 (k + 1) h3 (by omega) (ak_luF_trans f2 f3), fun g => absurd rfl g⟩⟩
      exact lp2 _ 0 h1 (Nat.zero_add _) f
  refine ak_MI_of (Nat.le_of_ble_eq_true rfl) (am_k119_0 ?_)
  exact lp 151 0 h (by decide) ak_luF_refl
/-- nor of the other -/
theorem am_s325 {Q : Int → ak_S → Prop} {X : Nat → ak_S → Prop} {rw0 : Nat} {en : ak_E} (wd : ak_WD S O B Mt T sh hc h) (st : ak_ST S O NS us T sh E Et G hc h) (N : ak_eM h rw0 en) (K : ak_eok S O T sh en) (hr0 : rw0 < 728) (q : ∀ h', ak_luM h h' → ak_ly S O T sh h' → Q 0 h') : ak_MI e 1 (d + 5) ρ 325 [am_r 110, am_i (rw0 : Int)] h Q X := by
  obtain ⟨n1, n2, n3, n4, n5⟩ := N
  have b : 0 ≤ (rw0 : Int) ∧ (rw0 : Int) < 728 := by omega
  refine ak_MI_of (Nat.le_of_ble_eq_true rfl) (am_k325_0 ?_)
  rw [ak_natn, n1, n2, n3]
  refine ⟨b, b, b, am_s251 wd.1 wd.2.2.2.1.1 wd.2.2.1 (ak_obs wd).1 st.2.2.2.2.2 K.1 K.2.1.1 (fun h1 r1 r2 l f => ?_)⟩
  rw [f.1 167 _ (by omega) (by omega), f.1 168 _ (by omega) (by omega), n4, n5, r1, r2, ← K.2.1.2]
  exact ⟨b, fun g => absurd rfl g, fun _ => ⟨b, fun _ => ⟨Or.inl rfl, q h1 f l⟩, fun g => absurd rfl g⟩⟩
theorem am_l326_81 {Q : Int → ak_S → Prop} {X : Nat → ak_S → Prop} (wd : ak_WD S O B Mt T sh hc h) (st : ak_ST S O NS us T sh E Et G hc h) (q : ∀ h', ak_luM h h' → ak_ly S O T sh h' → Q 0 h') : ak_W0 e 1 (d + 5) 326 ρ 81 [some (am_r 110), some (am_i 0), some (am_i 0), none] [] h (ak_qi Q X) := by
  have lp : ∀ (c k : Nat) (h1 : ak_S), k + c = Et.length → ak_luM h h1 → ak_ly S O T sh h1 → ak_W0 e 1 (d + 5) 326 ρ 81 [some (am_r 110), some (am_i 0), some (am_i (k : Int)), none] [] h1 (ak_qi Q X) := by
    intro c
    induction c with
    | zero =>
      intro k h1 hk f l
      have st1 := ak_ST_luM st f l
      refine am_k326_81 ?_
      rw [st1.2.2.1.2.2.2.2]
      exact ⟨fun _ => q h1 f l, fun g => absurd g (by omega)⟩
    | succ c ih =>
      intro k h1 hk f l
      have st1 := ak_ST_luM st f l
      have lt : k < Et.length := by omega
      have hy := List.getElem?_eq_getElem lt
      have len := st1.2.2.1.1.1
      refine am_k326_81 ?_
      rw [st1.2.2.1.2.2.2.2, show am_w32 (600 + (k : Int)) = ((600 + k : Nat) : Int) from by
        rw [ak_w _ (by omega)]
        omega, ak_wj (show k < 1000000 by omega), show am_w32 ((0 : Int) + 0) = 0 from by decide]
      refine ⟨fun g => absurd g (by omega), fun _ => am_s325 (ak_WD_luM wd f) st1 (st1.2.2.1.2.2.1 _ _ hy) (st1.2.2.1.1.2 _ (List.getElem_mem lt)) (by omega) (fun h2 f2 l2 => ⟨fun _ => ih (k + 1) h2 (by omega) (ak_luM_trans f f2) l2, fun g => absurd rfl g⟩)⟩
  exact lp _ 0 h (Nat.zero_add _) ak_luM_refl st.2.2.2.2.2
theorem am_l326_22 {Q : Int → ak_S → Prop} {X : Nat → ak_S → Prop} (wd : ak_WD S O B Mt T sh hc h) (st : ak_ST S O NS us T sh E Et G hc h) (q : ∀ h', ak_luM h h' → ak_ly S O T sh h' → Q 0 h') : ak_W0 e 1 (d + 5) 326 ρ 22 [some (am_r 110), some (am_i 0), some (am_i 0), none] [] h (ak_qi Q X) := by
  have NS2 := st.1.2.2.2
  have lp : ∀ (c n : Nat) (h1 : ak_S), n + c = NS → ak_luM h h1 → ak_ly S O T sh h1 → ak_W0 e 1 (d + 5) 326 ρ 22 [some (am_r 110), some (am_i 0), some (am_i (n : Int)), none] [] h1 (ak_qi Q X) := by
    intro c
    induction c with
    | zero =>
      intro n h1 hn f l
      have st1 := ak_ST_luM st f l
      refine am_k326_22 ?_
      rw [st1.1.1, ak_natn, st1.1.2.2.1]
      exact ⟨by have := st1.1.2.1; omega, fun _ => am_l326_81 (ak_WD_luM wd f) st1 (fun h2 f2 l2 => q h2 (ak_luM_trans f f2) l2), fun g => absurd g (by omega)⟩
    | succ c ih =>
      intro n h1 hn f l
      have st1 := ak_ST_luM st f l
      refine am_k326_22 ?_
      rw [st1.1.1, ak_natn, st1.1.2.2.1]
      refine ⟨by have := st1.1.2.1; omega, fun g => absurd g (by omega), fun _ => ?_⟩
      have lp2 : ∀ (c2 k : Nat) (h2 : ak_S), k + c2 = (E n).length → ak_luM h h2 → ak_ly S O T sh h2 → ak_W0 e 1 (d + 5) 326 ρ 37 [some (am_r 110), some (am_i 0), some (am_i (n : Int)), some (am_i (k : Int))] [] h2 (ak_qi Q X) := by
        intro c2
        induction c2 with
        | zero =>
          intro k h2 hk f2 l2
          have st2 := ak_ST_luM st f2 l2
          refine am_k326_37 ?_
          rw [ak_natn, (st2.2.1 n (by omega)).2.1.2.2.2, ak_wj (show n < 1000000 by omega)]
          exact ⟨by omega, fun _ => ih (n + 1) h2 (by omega) f2 l2, fun g => absurd g (by omega)⟩
        | succ c2 ih2 =>
          intro k h2 hk f2 l2
          have st2 := ak_ST_luM st f2 l2
          obtain ⟨⟨a1, a2, a3⟩, ⟨b1, b2, b3, b4⟩, _⟩ := st2.2.1 n (by omega)
          have lt : k < (E n).length := by omega
          have hy := List.getElem?_eq_getElem lt
          refine am_k326_37 ?_
          rw [ak_natn, b4, show am_w32 (am_w32 (4 * (n : Int)) + (k : Int)) = ((4 * n + k : Nat) : Int) from by
            rw [ak_w (4 * (n : Int)) (by omega), ak_w _ (by omega)]
            omega, ak_wj (show k < 1000000 by omega), show am_w32 ((0 : Int) + 0) = 0 from by decide]
          refine ⟨by omega, fun g => absurd g (by omega), fun _ => am_s325 (ak_WD_luM wd f2) st2 (b2 _ _ hy) (a3 _ (List.getElem_mem lt)) (by omega) (fun h3 f3 l3 => ⟨fun _ => ih2 (k + 1) h3 (by omega) (ak_luM_trans f2 f3) l3, fun g => absurd rfl g⟩)⟩
      exact lp2 _ 0 h1 (Nat.zero_add _) f l
  exact lp _ 0 h (Nat.zero_add _) ak_luM_refl st.2.2.2.2.2
theorem am_ld191 (hu : u = 0 ∨ u = 1) (A : ak_all us hc hm) (L : ak_LD u us hc hm) (k1 : hc.1 1 8 = 1) (k2 : hm.1 110 4 = 1) (r : ak_rr u us R hc hm) : ak_cI e (d + 6) [ak_T u, ρ1, ρ2, ak_T u, ak_T u + 1] 191 326 [] hc hm [(0, 1)] R := by
  obtain ⟨h0, m0, b, n, m, Mt, z, S, O, B, T, sh, E, Et, G, φ, hr, lv, mt, Us, FR, tx, ag, ⟨hO, wd⟩, st, rm, jn⟩ := L
  have n1 : hc.1 1 8 ≠ 0 := by omega
  have n2 : hm.1 110 4 ≠ 0 := by omega
  have go := fun hc' hm' => ak_rr_go (hc' := hc') (hm' := hm') hu A tx ag hO wd st rm jn k1 k2 r
  refine ak_MI_of (Nat.le_of_ble_eq_true rfl) (am_k191_0 hu (am_s192 hu (fun _ => am_s119 (d := d + 1) wd st (fun h1 f1 => ?_)) (fun g => absurd g n1)))
  refine ak_MI_of (Nat.le_of_ble_eq_true rfl) (am_k326_0 ⟨fun _ => am_l326_22 (ak_WD_no (x := 0) wd) (ak_ST_no (x := 0) st) (fun h2 f2 l2 => ?_), fun g => absurd g n2⟩)
  exact ⟨go h1 h2 (ak_kC_luF f1) f1.2.2 (ak_kM_trans ak_kM_no (ak_kM_luM f2)) l2, f2.1 110 0 (by omega) (by omega), rfl⟩
end STRAY
