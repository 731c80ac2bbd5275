/-! the two worlds are alike -/
def ak_vok (O B : Nat) (s w : Int) : Prop := (0 ≤ s ∧ s ≤ 3) ∧ (s = 2 → 0 ≤ w ∧ w < (O : Int)) ∧ (s = 3 → 0 ≤ w ∧ w < (B : Int)) ∧ -9223372036854775808 ≤ w ∧ w < 9223372036854775808
/-- what an item holds, on both sides -/
def ak_hv (O B Mt : Nat) (x : Int × Int) (cs cw ms mw : Int) : Prop := (x.1 = 0 → cs = ms ∧ cw = mw ∧ ak_vok O B cs cw) ∧ (x.1 = 1 → cs = 4 ∧ cw = mw ∧ 0 ≤ cw ∧ cw < (Mt : Int))
def ak_WD (S O B Mt : Nat) (T : Nat → List (Int × Int)) (sh : Nat → Nat) (hc hm : ak_S) : Prop := ak_Tok S T O ∧ ak_tC S T hc ∧ ak_tM S T hm ∧ (O ≤ 200 ∧ hc.1 33 0 = (O : Int) ∧ hm.1 110 46 = (O : Int)) ∧
  ∀ o, o < O → sh o < S ∧ hc.1 34 o = (sh o : Int) ∧ hm.1 142 o = (sh o : Int) ∧ ak_ob (T (sh o)) o hm ∧ ∀ k x, (T (sh o))[k]? = some x → ak_hv O B Mt x (hc.1 35 (12 * o + k)) (hc.2.1 36 (12 * o + k)) (hm.1 145 (12 * o + k)) (hm.2.1 146 (12 * o + k))
/-- what leaves the worlds alone -/
def ak_wdC (hc hc' : ak_S) : Prop := (∀ q k, (q = 33 ∧ (k = 0 ∨ k = 4)) ∨ (34 ≤ q ∧ q ≤ 40) → hc'.1 q k = hc.1 q k) ∧ (∀ k, hc'.2.1 36 k = hc.2.1 36 k)
def ak_wdM (hm hm' : ak_S) : Prop := (∀ q k, (q = 110 ∧ (k = 46 ∨ k = 53)) ∨ (141 ≤ q ∧ q ≤ 149) → hm'.1 q k = hm.1 q k) ∧ (∀ k, hm'.2.1 146 k = hm.2.1 146 k)
/-- what making void changes -/
def ak_fV (h h' : ak_S) : Prop := (∀ q k, ¬ (q = 110 ∧ (k = 64 ∨ k = 67 ∨ k = 78 ∨ k = 84)) → ¬ (154 ≤ q ∧ q ≤ 172) → h'.1 q k = h.1 q k) ∧ h'.2 = h.2
section WDS
variable {S O B Mt o j0 t a : Nat} {T : Nat → List (Int × Int)} {sh : Nat → Nat} {hc hm hc' hm' h1 h3 h4 : ak_S} {x : Int × Int} {sv wv sv' wv' : Int}
theorem ak_WD_fr (w : ak_WD S O B Mt T sh hc hm) (fc : ak_wdC hc hc') (fm : ak_wdM hm hm') : ak_WD S O B Mt T sh hc' hm' := by
  obtain ⟨w1, w2, w3, ⟨w4, w5, w6⟩, w7⟩ := w
  refine ⟨w1, ak_tC_out w2 (fun q k hq => fc.1 q k (by omega)), ⟨(fm.1 _ _ (by omega)).trans w3.1, fun s hs => ⟨(fm.1 _ _ (by omega)).trans (w3.2 s hs).1, fun k x hx => ?_⟩⟩, ⟨w4, (fc.1 _ _ (by omega)).trans w5, (fm.1 _ _ (by omega)).trans w6⟩, fun o ho => ?_⟩
  · rw [fm.1 148 _ (by omega), fm.1 149 _ (by omega)]
    exact (w3.2 s hs).2 k x hx
  · obtain ⟨v1, v2, v3, v4, v5⟩ := w7 o ho
    refine ⟨v1, (fc.1 _ _ (by omega)).trans v2, (fm.1 _ _ (by omega)).trans v3, ⟨(fm.1 _ _ (by omega)).trans v4.1, fun k x hx => ?_⟩, fun k x hx => ?_⟩
    · rw [fm.1 143 _ (by omega), fm.1 144 _ (by omega)]
      exact v4.2 k x hx
    · rw [fc.1 35 _ (by omega), fc.2, fm.1 145 _ (by omega), fm.2]
      exact v5 k x hx
def ak_sh (sh : Nat → Nat) (o t : Nat) : Nat → Nat := fun i => if i = o then t else sh i
theorem ak_WD_come (w : ak_WD S O B Mt T sh hc hm) (ho : o < O) (hl : (T (sh o)).length < 12) (hx : ak_it O x) (u : ak_upto S j0 1 T (ak_Pc (T (sh o)) x)) (hS : S + (1 - j0) ≤ 400) (ht : t < S + (1 - j0)) (et : ak_Tg S j0 T (ak_Pc (T (sh o)) x) t = T (sh o) ++ [x])
    (c1 : ak_tC (S + (1 - j0)) (ak_Tg S j0 T (ak_Pc (T (sh o)) x)) hc') (c2 : hc'.1 34 o = (t : Int)) (c3 : ∀ k, k ≠ (T (sh o)).length → hc'.1 35 (12 * o + k) = hc.1 35 (12 * o + k) ∧ hc'.2.1 36 (12 * o + k) = hc.2.1 36 (12 * o + k))
    (c4 : hc'.1 35 (12 * o + (T (sh o)).length) = sv) (c5 : hc'.2.1 36 (12 * o + (T (sh o)).length) = wv) (c6 : ak_fA o hc hc') (hv : ak_hv O B Mt x sv wv sv' wv')
    (m1 : ak_tM (S + (1 - j0)) (ak_Tg S j0 T (ak_Pc (T (sh o)) x)) h1) (m2 : ak_wM hm h1) (m3 : ak_fV h1 h3) : ak_WD (S + (1 - j0)) O B Mt (ak_Tg S j0 T (ak_Pc (T (sh o)) x)) (ak_sh sh o t) hc' (ak_cmM h3 o (T (sh o)).length x sv' wv' t) := by
  obtain ⟨w1, w2, w3, ⟨w4, w5, w6⟩, w7⟩ := w
  have F := ak_cmM_fB (h := h3) (o := o) (n := (T (sh o)).length) (t := t) (x := x) (sv := sv') (wv := wv') hl
  have G1 : (ak_cmM h3 o (T (sh o)).length x sv' wv' t).1 141 o = (((T (sh o)).length + 1 : Nat) : Int) := by unfold ak_cmM; simp [am_up]
  have G2 : (ak_cmM h3 o (T (sh o)).length x sv' wv' t).1 142 o = (t : Int) := by unfold ak_cmM; simp [am_up]
  have G3 : (ak_cmM h3 o (T (sh o)).length x sv' wv' t).1 143 (12 * o + (T (sh o)).length) = x.1 ∧ (ak_cmM h3 o (T (sh o)).length x sv' wv' t).1 144 (12 * o + (T (sh o)).length) = x.2 ∧ (ak_cmM h3 o (T (sh o)).length x sv' wv' t).1 145 (12 * o + (T (sh o)).length) = sv' ∧ (ak_cmM h3 o (T (sh o)).length x sv' wv' t).2.1 146 (12 * o + (T (sh o)).length) = wv' := by
    unfold ak_cmM; simp [am_up]
  have G4 : ∀ q k, 143 ≤ q → q ≤ 145 → k ≠ (T (sh o)).length → (ak_cmM h3 o (T (sh o)).length x sv' wv' t).1 q (12 * o + k) = h3.1 q (12 * o + k) := by
    intro q k a b c
    show am_up (am_up (am_up (am_up (am_up (am_up h3.1 143 (12 * o + (T (sh o)).length) x.1) 144 (12 * o + (T (sh o)).length) x.2) 145 (12 * o + (T (sh o)).length) sv') 141 o _) 142 o (t : Int)) 110 67 (-1) q (12 * o + k) = _
    rw [ak_up_out (by omega), ak_up_out (by omega), ak_up_out (by omega), ak_up_out (by omega), ak_up_out (by omega), ak_up_out (by omega)]
  have G5 : ∀ k, k ≠ (T (sh o)).length → (ak_cmM h3 o (T (sh o)).length x sv' wv' t).2.1 146 (12 * o + k) = h3.2.1 146 (12 * o + k) := by
    intro k c
    show am_up h3.2.1 146 (12 * o + (T (sh o)).length) wv' 146 (12 * o + k) = _
    exact ak_up_out (by omega)
  generalize ak_cmM h3 o (T (sh o)).length x sv' wv' t = h4 at F G1 G2 G3 G4 G5
  have fm : ∀ q k, 141 ≤ q → q ≤ 145 → h3.1 q k = hm.1 q k := fun q k a b => (m3.1 q k (by omega) (by omega)).trans (m2.1 q k (by omega) (by omega) (by omega))
  have fmJ : h3.2 = hm.2 := m3.2.trans m2.2
  have ft : ∀ q k, 147 ≤ q → q ≤ 149 → h4.1 q k = h1.1 q k := fun q k a b => (F.1 q k (by omega) (by omega) (by omega)).trans (m3.1 q k (by omega) (by omega))
  refine ⟨ak_Tg_Tok w1 (ak_Pc_ch hl hx) u (1 - j0) (by have := u.1; omega) hS, c1, ⟨(F.1 _ _ (by omega) (by omega) (by omega)).trans ((m3.1 _ _ (by omega) (by omega)).trans m1.1), fun s hs => ⟨(ft 147 s (by omega) (by omega)).trans (m1.2 s hs).1, fun k y hy => ?_⟩⟩,
    ⟨w4, (c6.1 _ _ (by omega) (by omega) (by omega) (by omega)).trans w5, (F.1 _ _ (by omega) (by omega) (by omega)).trans ((m3.1 _ _ (by omega) (by omega)).trans ((m2.1 _ _ (by omega) (by omega) (by omega)).trans w6))⟩, fun i hi => ?_⟩
  · rw [ft 148 _ (by omega) (by omega), ft 149 _ (by omega) (by omega)]
    exact (m1.2 s hs).2 k y hy
  · obtain ⟨v1, v2, v3, v4, v5⟩ := w7 i hi
    by_cases hio : i = o
    · subst hio
      have es : ak_sh sh i t i = t := if_pos rfl
      rw [es, et]
      refine ⟨ht, c2, G2, ⟨?_, fun k y hy => ?_⟩, fun k y hy => ?_⟩
      · rw [G1, List.length_append]; rfl
      · have hk := ak_get_none hy
        rw [List.length_append] at hk
        simp at hk
        by_cases hkl : k = (T (sh i)).length
        · subst hkl
          rw [ak_get_snoc] at hy
          cases hy
          exact ⟨G3.1, G3.2.1⟩
        · rw [ak_get_snoc_lt (by omega)] at hy
          rw [G4 143 k (by omega) (by omega) hkl, G4 144 k (by omega) (by omega) hkl, fm 143 _ (by omega) (by omega), fm 144 _ (by omega) (by omega)]
          exact v4.2 k y hy
      · have hk := ak_get_none hy
        rw [List.length_append] at hk
        simp at hk
        by_cases hkl : k = (T (sh i)).length
        · subst hkl
          rw [ak_get_snoc] at hy
          cases hy
          rw [c4, c5, G3.2.2.1, G3.2.2.2]
          exact hv
        · rw [ak_get_snoc_lt (by omega)] at hy
          rw [(c3 k hkl).1, (c3 k hkl).2, G4 145 k (by omega) (by omega) hkl, G5 k hkl, fm 145 _ (by omega) (by omega), fmJ]
          exact v5 k y hy
    · have es : ak_sh sh o t i = sh i := if_neg hio
      rw [es, ak_Tg_lt v1]
      have hlen := (w1.2.1 (sh i) v1).1
      refine ⟨by omega, (c6.1 _ _ (by omega) (by omega) (by omega) (by omega)).trans v2, (F.1 _ _ (by omega) (by omega) (by omega)).trans ((fm _ _ (by omega) (by omega)).trans v3), ⟨(F.1 _ _ (by omega) (by omega) (by omega)).trans ((fm _ _ (by omega) (by omega)).trans v4.1), fun k y hy => ?_⟩, fun k y hy => ?_⟩
      · have hk := ak_get_none hy
        rw [F.1 143 _ (by omega) (by omega) (by omega), F.1 144 _ (by omega) (by omega) (by omega), fm 143 _ (by omega) (by omega), fm 144 _ (by omega) (by omega)]
        exact v4.2 k y hy
      · have hk := ak_get_none hy
        rw [c6.1 35 _ (by omega) (by omega) (by omega) (by omega), c6.2.1 36 _ (by omega), F.1 145 _ (by omega) (by omega) (by omega), F.2.1 146 _ (by omega), fm 145 _ (by omega) (by omega), fmJ]
        exact v5 k y hy
theorem ak_WD_go (w : ak_WD S O B Mt T sh hc hm) (ho : o < O) (ha : a < (T (sh o)).length) (u : ak_upto S j0 ((T (sh o)).length - a - 1) T (ak_Pg (T (sh o)) a)) (hS : S + ((T (sh o)).length - a - 1 - j0) ≤ 400) (ht : t < S + ((T (sh o)).length - a - 1 - j0))
    (et : ak_Tg S j0 T (ak_Pg (T (sh o)) a) t = ak_Pg (T (sh o)) a ((T (sh o)).length - a - 1)) (c1 : ak_tC (S + ((T (sh o)).length - a - 1 - j0)) (ak_Tg S j0 T (ak_Pg (T (sh o)) a)) hc') (c2 : hc'.1 34 o = (t : Int))
    (c3 : ∀ k, k < a → hc'.1 35 (12 * o + k) = hc.1 35 (12 * o + k) ∧ hc'.2.1 36 (12 * o + k) = hc.2.1 36 (12 * o + k)) (c4 : ∀ k, a ≤ k → k + 1 < (T (sh o)).length → hc'.1 35 (12 * o + k) = hc.1 35 (12 * o + (k + 1)) ∧ hc'.2.1 36 (12 * o + k) = hc.2.1 36 (12 * o + (k + 1))) (c6 : ak_fA o hc hc')
    (m1 : ak_tM (S + ((T (sh o)).length - a - 1 - j0)) (ak_Tg S j0 T (ak_Pg (T (sh o)) a)) h1) (m2 : ak_wM hm h1) (m3 : ak_fV h1 h3) (m4 : ak_goM h3 o (T (sh o)).length a t h4) :
    ak_WD (S + ((T (sh o)).length - a - 1 - j0)) O B Mt (ak_Tg S j0 T (ak_Pg (T (sh o)) a)) (ak_sh sh o t) hc' h4 := by
  obtain ⟨w1, w2, w3, ⟨w4, w5, w6⟩, w7⟩ := w
  have so := (w7 o ho).1
  have hn2 := (w1.2.1 (sh o) so).1
  have ch := ak_Pg_ch (O := O) ha hn2 (w1.2.1 (sh o) so).2
  obtain ⟨G1, G2, -, G3, G4, G5, G6, F⟩ := m4
  have fm : ∀ q k, 141 ≤ q → q ≤ 145 → h3.1 q k = hm.1 q k := fun q k a b => (m3.1 q k (by omega) (by omega)).trans (m2.1 q k (by omega) (by omega) (by omega))
  have fmJ : h3.2 = hm.2 := m3.2.trans m2.2
  have ft : ∀ q k, 147 ≤ q → q ≤ 149 → h4.1 q k = h1.1 q k := fun q k a b => (F.1 q k (by omega) (by omega) (by omega)).trans (m3.1 q k (by omega) (by omega))
  refine ⟨ak_Tg_Tok w1 ch u _ (by have := u.1; omega) hS, c1, ⟨(F.1 _ _ (by omega) (by omega) (by omega)).trans ((m3.1 _ _ (by omega) (by omega)).trans m1.1), fun s hs => ⟨(ft 147 s (by omega) (by omega)).trans (m1.2 s hs).1, fun k y hy => ?_⟩⟩,
    ⟨w4, (c6.1 _ _ (by omega) (by omega) (by omega) (by omega)).trans w5, (F.1 _ _ (by omega) (by omega) (by omega)).trans ((m3.1 _ _ (by omega) (by omega)).trans ((m2.1 _ _ (by omega) (by omega) (by omega)).trans w6))⟩, fun i hi => ?_⟩
  · rw [ft 148 _ (by omega) (by omega), ft 149 _ (by omega) (by omega)]
    exact (m1.2 s hs).2 k y hy
  · obtain ⟨v1, v2, v3, v4, v5⟩ := w7 i hi
    by_cases hio : i = o
    · subst hio
      have es : ak_sh sh i t i = t := if_pos rfl
      rw [es, et]
      refine ⟨ht, c2, G2, ⟨?_, fun k y hy => ?_⟩, fun k y hy => ?_⟩
      · rw [G1, ak_Pg_len ha (Nat.le_refl _)]
        omega
      · have hk := ak_get_none hy
        rw [ak_Pg_len ha (Nat.le_refl _)] at hk
        rw [ak_Pg_get ha] at hy
        by_cases hka : k < a
        · rw [if_pos hka] at hy
          rw [G3 k 143 hka (by omega) (by omega), G3 k 144 hka (by omega) (by omega), fm 143 _ (by omega) (by omega), fm 144 _ (by omega) (by omega)]
          exact v4.2 k y hy
        · rw [if_neg hka] at hy
          rw [G5 k 143 (by omega) (by omega) (by omega) (by omega), G5 k 144 (by omega) (by omega) (by omega) (by omega), fm 143 _ (by omega) (by omega), fm 144 _ (by omega) (by omega)]
          exact v4.2 (k + 1) y hy
      · have hk := ak_get_none hy
        rw [ak_Pg_len ha (Nat.le_refl _)] at hk
        rw [ak_Pg_get ha] at hy
        by_cases hka : k < a
        · rw [if_pos hka] at hy
          rw [(c3 k hka).1, (c3 k hka).2, G3 k 145 hka (by omega) (by omega), G4 k hka, fm 145 _ (by omega) (by omega), fmJ]
          exact v5 k y hy
        · rw [if_neg hka] at hy
          rw [(c4 k (by omega) (by omega)).1, (c4 k (by omega) (by omega)).2, G5 k 145 (by omega) (by omega) (by omega) (by omega), G6 k (by omega) (by omega), fm 145 _ (by omega) (by omega), fmJ]
          exact v5 (k + 1) y hy
    · have es : ak_sh sh o t i = sh i := if_neg hio
      rw [es, ak_Tg_lt v1]
      have hlen := (w1.2.1 (sh i) v1).1
      refine ⟨by omega, (c6.1 _ _ (by omega) (by omega) (by omega) (by omega)).trans v2, (F.1 _ _ (by omega) (by omega) (by omega)).trans ((fm _ _ (by omega) (by omega)).trans v3), ⟨(F.1 _ _ (by omega) (by omega) (by omega)).trans ((fm _ _ (by omega) (by omega)).trans v4.1), fun k y hy => ?_⟩, fun k y hy => ?_⟩
      · have hk := ak_get_none hy
        rw [F.1 143 _ (by omega) (by omega) (by omega), F.1 144 _ (by omega) (by omega) (by omega), fm 143 _ (by omega) (by omega), fm 144 _ (by omega) (by omega)]
        exact v4.2 k y hy
      · have hk := ak_get_none hy
        rw [c6.1 35 _ (by omega) (by omega) (by omega) (by omega), c6.2.1 36 _ (by omega), F.1 145 _ (by omega) (by omega) (by omega), F.2.1 146 _ (by omega), fm 145 _ (by omega) (by omega), fmJ]
        exact v5 k y hy
end WDS
