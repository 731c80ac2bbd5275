/-! the one sifts a range of rows -/
section SIFT2
variable {e : ak_X3} {d o first : Nat} {ρ : List Nat} {R : ak_E → List Nat} {h h' h2 : ak_S} {E : List ak_E} {G : List (Int × Int × Int × Int)} {X : Nat → ak_S → Prop}
theorem ak_gC_tail {en : ak_E} {k : Nat} (w : ak_gC R (first + k) (en :: E) h) : ak_gC R (first + (k + 1)) E h := by
  intro j x hx
  have := w (j + 1) x hx
  rw [show first + (k + 1) + j = first + k + (j + 1) by omega]
  exact this
theorem am_s117 {Q : Int → ak_S → Prop} {site : Int} (hsite : (site = -1 ∧ first = 600) ∨ (0 ≤ site ∧ (first : Int) = site * 4)) (B : ak_gC R first E h) (hn : first + E.length ≤ 728) (N : ak_gnC G h) (hG : G.length + E.length ≤ 728) (ho : o < 200)
    (q : ∀ h', ak_gC R first (E.filter (ak_kp R o)) h' → ak_gnC (G ++ (E.filter (fun en => !ak_kp R o en)).map (ak_gg site)) h' → ak_sfF first (first + E.length) h h' → Q ((E.filter (ak_kp R o)).length : Int) h') :
    ak_MI e 0 (d + 2) ρ 117 [am_r 44, am_i site, am_i (E.length : Int), am_i (o : Int)] h Q X := by
  have lp : ∀ (rest K : List ak_E) (Gn : List (Int × Int × Int × Int)) (k : Nat) (h1 : ak_S), k + rest.length = E.length → K.length ≤ k → ak_gC R first K h1 → ak_gC R (first + k) rest h1 → ak_gnC Gn h1 → Gn.length + rest.length ≤ 728 → ak_sfF first (first + E.length) h h1 →
      K ++ rest.filter (ak_kp R o) = E.filter (ak_kp R o) → Gn ++ (rest.filter (fun en => !ak_kp R o en)).map (ak_gg site) = G ++ (E.filter (fun en => !ak_kp R o en)).map (ak_gg site) →
      ak_W0 e 0 (d + 1) 117 ρ 13 [some (am_r 44), some (am_i site), some (am_i (E.length : Int)), some (am_i (o : Int)), some (am_i (first : Int)), some (am_i (K.length : Int)), some (am_i ((first + k : Nat) : Int))] [] h1 (ak_qi Q X) := by
    intro rest
    induction rest with
    | nil =>
      intro K Gn k h1 hk hK gK _ gN _ f e1 e2
      have hk2 : k = E.length := by simpa using hk
      simp at e1 e2
      refine am_k117_13 ⟨fun _ => ?_, fun g => ?_⟩
      · subst e2
        rw [← e1] at q
        exact q h1 gK gN f
      · rw [ak_wpp (by omega)] at g; omega
    | cons en rest ih =>
      intro K Gn k h1 hk hK gK gR gN hN f e1 e2
      have hk2 : k + rest.length + 1 = E.length := by simp at hk; omega
      have hN2 : Gn.length + rest.length + 1 ≤ 728 := by simp at hN; omega
      obtain ⟨c1, c2⟩ := gR 0 en rfl
      have c1' : ak_eC h1 (first + k) en := c1
      have c2' : ak_eB h1 (first + k) (R en) := c2
      refine am_k117_13 ⟨fun g => ?_, fun _ => ?_⟩
      · rw [ak_wpp (by omega)] at g; omega
      · refine am_s110 (d := d) c2' (by omega) ho ⟨fun g => ?_, fun g => ?_⟩
        · have hno : o ∉ R en := fun z => by rw [if_pos z] at g; exact absurd g (by decide)
          have hkp : ak_kp R o en = true := decide_eq_true hno
          rw [ak_w5 (by omega), ak_wpp (by omega), ak_w5 (by omega), ak_w4 (by omega), ak_w4 (by omega), ak_wj (by omega), ak_wj (by omega), ak_natn, ak_natn, ak_natn, ak_natn]
          refine ⟨by omega, by omega, ?_⟩
          have GI : ∀ q j, am_cpy h1.1 45 45 (5 * (first + k)) (5 * (first + K.length)) 5 q j = if q = 45 ∧ 5 * (first + K.length) ≤ j ∧ j < 5 * (first + K.length) + 5 then h1.1 45 (5 * (first + k) + (j - 5 * (first + K.length))) else h1.1 q j := by
            intro q j
            unfold am_cpy
            by_cases hq : q = 45
            · subst hq
              by_cases hj : 5 * (first + K.length) ≤ j ∧ j < 5 * (first + K.length) + 5
              · rw [if_pos rfl, if_pos hj, if_pos ⟨rfl, hj⟩]
              · rw [if_pos rfl, if_neg hj, if_neg (fun z => hj z.2)]
            · rw [if_neg hq, if_neg (fun z => hq z.1)]
          have GJ : ∀ q j, am_cpy h1.2.1 46 46 (4 * (first + k)) (4 * (first + K.length)) 4 q j = if q = 46 ∧ 4 * (first + K.length) ≤ j ∧ j < 4 * (first + K.length) + 4 then h1.2.1 46 (4 * (first + k) + (j - 4 * (first + K.length))) else h1.2.1 q j := by
            intro q j
            unfold am_cpy
            by_cases hq : q = 46
            · subst hq
              by_cases hj : 4 * (first + K.length) ≤ j ∧ j < 4 * (first + K.length) + 4
              · rw [if_pos rfl, if_pos hj, if_pos ⟨rfl, hj⟩]
              · rw [if_pos rfl, if_neg hj, if_neg (fun z => hj z.2)]
            · rw [if_neg hq, if_neg (fun z => hq z.1)]
          generalize am_cpy h1.1 45 45 (5 * (first + k)) (5 * (first + K.length)) 5 = hI at GI
          generalize am_cpy h1.2.1 46 46 (4 * (first + k)) (4 * (first + K.length)) 4 = hJ at GJ
          have same : ∀ (r : Nat) (x : ak_E), (r < first + K.length ∨ first + K.length < r) → ak_eC h1 r x ∧ ak_eB h1 r (R x) → ak_eC (hI, hJ, h1.2.2) r x ∧ ak_eB (hI, hJ, h1.2.2) r (R x) := by
            intro r x hr w
            refine ⟨⟨?_, ?_, ?_, ?_, ?_⟩, fun i hi => ?_⟩
            · exact (GI 45 (5 * r)).trans ((if_neg (by omega)).trans w.1.1)
            · exact (GI 45 (5 * r + 1)).trans ((if_neg (by omega)).trans w.1.2.1)
            · exact (GI 45 (5 * r + 2)).trans ((if_neg (by omega)).trans w.1.2.2.1)
            · exact (GI 45 (5 * r + 3)).trans ((if_neg (by omega)).trans w.1.2.2.2.1)
            · exact (GI 45 (5 * r + 4)).trans ((if_neg (by omega)).trans w.1.2.2.2.2)
            · show ak_lb (hJ 46 (4 * r + i / 64)) (i % 64) = _
              rw [GJ, if_neg (by omega)]
              exact w.2 i hi
          have here : ak_eC (hI, hJ, h1.2.2) (first + K.length) en ∧ ak_eB (hI, hJ, h1.2.2) (first + K.length) (R en) := by
            refine ⟨⟨?_, ?_, ?_, ?_, ?_⟩, fun i hi => ?_⟩
            · refine (GI 45 _).trans ((if_pos (by omega)).trans ?_)
              rw [show 5 * (first + k) + (5 * (first + K.length) - 5 * (first + K.length)) = 5 * (first + k) by omega]; exact c1'.1
            · refine (GI 45 _).trans ((if_pos (by omega)).trans ?_)
              rw [show 5 * (first + k) + (5 * (first + K.length) + 1 - 5 * (first + K.length)) = 5 * (first + k) + 1 by omega]; exact c1'.2.1
            · refine (GI 45 _).trans ((if_pos (by omega)).trans ?_)
              rw [show 5 * (first + k) + (5 * (first + K.length) + 2 - 5 * (first + K.length)) = 5 * (first + k) + 2 by omega]; exact c1'.2.2.1
            · refine (GI 45 _).trans ((if_pos (by omega)).trans ?_)
              rw [show 5 * (first + k) + (5 * (first + K.length) + 3 - 5 * (first + K.length)) = 5 * (first + k) + 3 by omega]; exact c1'.2.2.2.1
            · refine (GI 45 _).trans ((if_pos (by omega)).trans ?_)
              rw [show 5 * (first + k) + (5 * (first + K.length) + 4 - 5 * (first + K.length)) = 5 * (first + k) + 4 by omega]; exact c1'.2.2.2.2
            · show ak_lb (hJ 46 (4 * (first + K.length) + i / 64)) (i % 64) = _
              rw [GJ, if_pos (by omega), show 4 * (first + k) + (4 * (first + K.length) + i / 64 - 4 * (first + K.length)) = 4 * (first + k) + i / 64 by omega]
              exact c2' i hi
          have eK : ((K ++ [en]).length : Int) = ((K.length + 1 : Nat) : Int) := by rw [List.length_append]; rfl
          rw [show first + k + 1 = first + (k + 1) by omega, ← eK]
          refine ih (K ++ [en]) Gn (k + 1) (hI, hJ, h1.2.2) (by omega) (by rw [List.length_append]; simp; omega) (fun j x hx => ?_) (fun j x hx => ?_) ⟨(GI 44 5).trans ((if_neg (by omega)).trans gN.1), fun j g hg => ?_⟩ (by omega) ⟨fun q j a b c => (GI q j).trans ((if_neg (by omega)).trans (f.1 q j a b c)), fun q j a => (GJ q j).trans ((if_neg (by omega)).trans (f.2.1 q j a)), f.2.2⟩ ?_ ?_
          · by_cases hj : j = K.length
            · subst hj
              rw [ak_get_snoc] at hx
              cases hx
              exact here
            · have hj2 := ak_get_none hx
              rw [List.length_append] at hj2
              simp at hj2
              rw [ak_get_snoc_lt (by omega)] at hx
              exact same _ x (by omega) (gK j x hx)
          · exact same _ x (by omega) (ak_gC_tail gR j x hx)
          · have z := gN.2 j g hg
            exact ⟨(GI 48 _).trans ((if_neg (by omega)).trans z.1), (GI 48 _).trans ((if_neg (by omega)).trans z.2.1), (GI 48 _).trans ((if_neg (by omega)).trans z.2.2.1), (GI 48 _).trans ((if_neg (by omega)).trans z.2.2.2)⟩
          · rw [← e1, List.filter_cons, if_pos hkp, List.append_assoc]; rfl
          · rw [← e2, List.filter_cons, if_neg (by rw [hkp]; decide)]
        · have hin : o ∈ R en := by
            by_cases z : o ∈ R en
            · exact z
            · rw [if_neg z] at g; exact absurd rfl g
          have hkp : ak_kp R o en = false := decide_eq_false (fun z => z hin)
          refine am_s118 (d := d) (site := site) c1' gN (by omega) (by omega) (fun h3 g3 f3 f32 => ?_)
          rw [ak_wj (by omega), show first + k + 1 = first + (k + 1) by omega]
          have keep : ∀ (r : Nat) (x : ak_E), ak_eC h1 r x ∧ ak_eB h1 r (R x) → ak_eC h3 r x ∧ ak_eB h3 r (R x) := by
            intro r x w
            refine ⟨⟨?_, ?_, ?_, ?_, ?_⟩, fun i hi => by rw [f32]; exact w.2 i hi⟩
            · exact (f3 _ _ (by omega) (by omega)).trans w.1.1
            · exact (f3 _ _ (by omega) (by omega)).trans w.1.2.1
            · exact (f3 _ _ (by omega) (by omega)).trans w.1.2.2.1
            · exact (f3 _ _ (by omega) (by omega)).trans w.1.2.2.2.1
            · exact (f3 _ _ (by omega) (by omega)).trans w.1.2.2.2.2
          refine ih K (Gn ++ [ak_gg site en]) (k + 1) h3 (by omega) (by omega) (fun j x hx => keep _ x (gK j x hx)) (fun j x hx => keep _ x (ak_gC_tail gR j x hx)) g3 (by rw [List.length_append]; simp; omega) ⟨fun q j a b c => (f3 q j b c).trans (f.1 q j a b c), fun q j a => by rw [f32]; exact f.2.1 q j a, by rw [f32]; exact f.2.2⟩ ?_ ?_
          · rw [← e1, List.filter_cons, if_neg (by rw [hkp]; decide)]
          · rw [← e2, List.filter_cons, if_pos (by rw [hkp]; rfl), List.append_assoc]; rfl
  have h108 : ∀ (Q : Int → ak_S → Prop), Q (first : Int) h → ak_MI e 0 (d + 1) ρ 108 [am_i site] h Q (fun _ _ => False) := by
    intro Q q
    refine ak_MI_of (Nat.le_of_ble_eq_true rfl) (am_k108_0 ⟨fun g => ?_, fun g => ?_⟩)
    · rw [show am_w32 (site * 4) = (first : Int) from by rw [ak_w _ (by omega)]; omega]
      exact q
    · rw [show (600 : Int) = (first : Int) by omega]
      exact q
  refine ak_MI_of (Nat.le_of_ble_eq_true rfl) (am_k117_0 (h108 _ ?_))
  have := lp E [] G 0 h (by omega) (Nat.le_refl _) (fun j x hx => by simp at hx) B N hG ⟨fun _ _ _ _ _ => rfl, fun _ _ _ => rfl, rfl⟩ rfl rfl
  exact this
end SIFT2
