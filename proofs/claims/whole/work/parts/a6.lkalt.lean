/-! altering, both sides at once -/
def ak_goC (e : ak_X3) (d : Nat) (ρ : List Nat) (j : Nat) (ar : List am_V) (h : ak_S) (v : Int) (h' : ak_S) : Prop := ∀ (Q : Int → ak_S → Prop) (X : Nat → ak_S → Prop), Q v h' → ak_MI e 0 d ρ j ar h Q X
section LKALT
variable {e : ak_X3} {d S O B Mt o : Nat} {ρ ρ2 : List Nat} {T : Nat → List (Int × Int)} {sh : Nat → Nat} {hc hm : ak_S} {op x sv wv sv' wv' : Int}
theorem ak_WD_hold {k : Nat} {y : Int × Int} (w : ak_WD S O B Mt T sh hc hm) (ho : o < O) (hk : (T (sh o))[k]? = some y) (hv : ak_hv O B Mt y sv wv sv' wv') : ak_WD S O B Mt T sh (ak_hd hc o k sv wv) (ak_hdM hm o k sv' wv') := by
  obtain ⟨w1, w2, w3, ⟨w4, w5, w6⟩, w7⟩ := w
  have fC : ∀ q j, ¬ (q = 35 ∧ j = 12 * o + k) → (ak_hd hc o k sv wv).1 q j = hc.1 q j := fun q j a => ak_up_out a
  have fJ : ∀ q j, ¬ (q = 36 ∧ j = 12 * o + k) → (ak_hd hc o k sv wv).2.1 q j = hc.2.1 q j := fun q j a => ak_up_out a
  have gC : ∀ q j, ¬ (q = 145 ∧ j = 12 * o + k) → (ak_hdM hm o k sv' wv').1 q j = hm.1 q j := fun q j a => ak_up_out a
  have gJ : ∀ q j, ¬ (q = 146 ∧ j = 12 * o + k) → (ak_hdM hm o k sv' wv').2.1 q j = hm.2.1 q j := fun q j a => ak_up_out a
  have eC : (ak_hd hc o k sv wv).1 35 (12 * o + k) = sv ∧ (ak_hd hc o k sv wv).2.1 36 (12 * o + k) = wv := by unfold ak_hd; simp [am_up]
  have eM : (ak_hdM hm o k sv' wv').1 145 (12 * o + k) = sv' ∧ (ak_hdM hm o k sv' wv').2.1 146 (12 * o + k) = wv' := by unfold ak_hdM; simp [am_up]
  generalize ak_hd hc o k sv wv = h1 at fC fJ eC
  generalize ak_hdM hm o k sv' wv' = h2 at gC gJ eM
  have hk2 := ak_get_none hk
  refine ⟨w1, ak_tC_out w2 (fun q k hq => fC q k (by omega)), ⟨(gC _ _ (by omega)).trans w3.1, fun s hs => ⟨(gC _ _ (by omega)).trans (w3.2 s hs).1, fun k x hx => ?_⟩⟩, ⟨w4, (fC _ _ (by omega)).trans w5, (gC _ _ (by omega)).trans w6⟩, fun i hi => ?_⟩
  · rw [gC 148 _ (by omega), gC 149 _ (by omega)]
    exact (w3.2 s hs).2 k x hx
  · obtain ⟨v1, v2, v3, v4, v5⟩ := w7 i hi
    refine ⟨v1, (fC _ _ (by omega)).trans v2, (gC _ _ (by omega)).trans v3, ⟨(gC _ _ (by omega)).trans v4.1, fun k x hx => ?_⟩, fun j x hx => ?_⟩
    · rw [gC 143 _ (by omega), gC 144 _ (by omega)]
      exact v4.2 k x hx
    · have hj := ak_get_none hx
      have hl := (w1.2.1 (sh i) v1).1
      have hl2 := (w1.2.1 (sh o) (w7 o ho).1).1
      by_cases he : i = o ∧ j = k
      · obtain ⟨rfl, rfl⟩ := he
        rw [hk] at hx
        cases hx
        rw [eC.1, eC.2, eM.1, eM.2]
        exact hv
      · have hne : ¬ 12 * i + j = 12 * o + k := by omega
        rw [fC 35 _ (by omega), fJ 36 _ (by omega), gC 145 _ (by omega), gJ 146 _ (by omega)]
        exact v5 j x hx
theorem lk_alter (w : ak_WD S O B Mt T sh hc hm) (ho : o < O) (hop : 0 ≤ op ∧ op ≤ 4) (hx : op = 3 → 0 ≤ x ∧ x < (O : Int)) (h01 : op = 0 ∨ op = 1 → ak_hv O B Mt (op, x) sv wv sv' wv') :
    (∃ (r : Int) (hm' : ak_S), (r = 7 ∨ r = 8) ∧ ak_wF hm hm' ∧ ak_goC e (d + 3) ρ 156 [am_r 33, am_i op, am_i (o : Int), am_i x, am_i sv, am_l wv] hc r hc ∧ ak_goI e (d + 8) ρ2 297 [am_r 110, am_i (o : Int), am_i op, am_i x, am_i sv', am_l wv'] hm r hm') ∨
    (∃ hc' hm' : ak_S, ak_WD S O B Mt T sh hc' hm' ∧ ak_fA o hc hc' ∧ ak_fB o hm hm' ∧ hm'.1 110 67 = hm.1 110 67 ∧ hc'.1 34 o = hc.1 34 o ∧ ak_goC e (d + 3) ρ 156 [am_r 33, am_i op, am_i (o : Int), am_i x, am_i sv, am_l wv] hc 0 hc' ∧ ak_goI e (d + 8) ρ2 297 [am_r 110, am_i (o : Int), am_i op, am_i x, am_i sv', am_l wv'] hm 0 hm') ∨
    (∃ (S' : Nat) (T' : Nat → List (Int × Int)) (t : Nat) (hc' : ak_S), S ≤ S' ∧ (∀ s, s < S → T' s = T s) ∧ ak_Tok S' T' O ∧ t < S' ∧ t ≠ sh o ∧ hc'.1 34 o = (t : Int) ∧ ak_fA o hc hc' ∧ ak_goC e (d + 3) ρ 156 [am_r 33, am_i op, am_i (o : Int), am_i x, am_i sv, am_l wv] hc 0 hc' ∧
      ∀ (Q : Int → ak_S → Prop) (X : Nat → ak_S → Prop), (∀ h1, ak_wM hm h1 → ak_tM S' T' h1 → ak_MV e 1 (d + 6) ρ2 256 [am_r 110, am_i (o : Int)] h1 (fun h3 => h3.1 141 o = h1.1 141 o ∧ ∀ h4, ak_fB o h3 h4 → h4.1 110 67 = -1 → (ak_fV h1 h3 → ak_WD S' O B Mt T' (ak_sh sh o t) hc' h4) → Q 0 h4) (fun _ _ => False)) →
        ak_MI e 1 (d + 8) ρ2 297 [am_r 110, am_i (o : Int), am_i op, am_i x, am_i sv', am_l wv'] hm Q X) := by
  have w' := w
  obtain ⟨w1, w2, w3, ⟨w4, w5, w6⟩, w7⟩ := w'
  obtain ⟨v1, v2, v3, v4, v5⟩ := w7 o ho
  have ho2 : o < 200 := by omega
  have hn2 := (w1.2.1 (sh o) v1).1
  have hS := w1.1.2.1
  -- an item comes
  have come : ∀ (kd sv2 wv2 : Int), ak_it O (kd, x) → ak_hv O B Mt (kd, x) sv wv sv2 wv2 →
      (∀ (Q : Int → ak_S → Prop) (X : Nat → ak_S → Prop), ak_MI e 0 (d + 2) ρ 157 [am_r 33, am_i (o : Int), am_i kd, am_i x, am_i sv, am_l wv] hc (fun v h1 => Q v h1) (fun _ _ => False) → ak_MI e 0 (d + 3) ρ 156 [am_r 33, am_i op, am_i (o : Int), am_i x, am_i sv, am_l wv] hc Q X) →
      (∀ (Q : Int → ak_S → Prop) (X : Nat → ak_S → Prop), ak_MI e 1 (d + 7) ρ2 243 [am_r 110, am_i (o : Int), am_i kd, am_i x, am_i sv2, am_l wv2] hm (fun v h1 => (v = 0 → Q 8 h1) ∧ (v ≠ 0 → Q 0 h1)) (fun _ _ => False) → ak_MI e 1 (d + 8) ρ2 297 [am_r 110, am_i (o : Int), am_i op, am_i x, am_i sv', am_l wv'] hm Q X) →
      (∃ (r : Int) (hm' : ak_S), (r = 7 ∨ r = 8) ∧ ak_wF hm hm' ∧ ak_goC e (d + 3) ρ 156 [am_r 33, am_i op, am_i (o : Int), am_i x, am_i sv, am_l wv] hc r hc ∧ ak_goI e (d + 8) ρ2 297 [am_r 110, am_i (o : Int), am_i op, am_i x, am_i sv', am_l wv'] hm r hm') ∨
      (∃ (S' : Nat) (T' : Nat → List (Int × Int)) (t : Nat) (hc' : ak_S), S ≤ S' ∧ (∀ s, s < S → T' s = T s) ∧ ak_Tok S' T' O ∧ t < S' ∧ t ≠ sh o ∧ hc'.1 34 o = (t : Int) ∧ ak_fA o hc hc' ∧ ak_goC e (d + 3) ρ 156 [am_r 33, am_i op, am_i (o : Int), am_i x, am_i sv, am_l wv] hc 0 hc' ∧
      ∀ (Q : Int → ak_S → Prop) (X : Nat → ak_S → Prop), (∀ h1, ak_wM hm h1 → ak_tM S' T' h1 → ak_MV e 1 (d + 6) ρ2 256 [am_r 110, am_i (o : Int)] h1 (fun h3 => h3.1 141 o = h1.1 141 o ∧ ∀ h4, ak_fB o h3 h4 → h4.1 110 67 = -1 → (ak_fV h1 h3 → ak_WD S' O B Mt T' (ak_sh sh o t) hc' h4) → Q 0 h4) (fun _ _ => False)) →
        ak_MI e 1 (d + 8) ρ2 297 [am_r 110, am_i (o : Int), am_i op, am_i x, am_i sv', am_l wv'] hm Q X) := by
    intro kd sv2 wv2 hit hhv linkC linkM
    have hu : ∃ j0, ak_upto S j0 1 T (ak_Pc (T (sh o)) (kd, x)) := by
      by_cases hl : (T (sh o)).length < 12
      · exact ak_upto_of w1 (ak_Pc_ch hl hit) ⟨sh o, v1, ak_Pc_0.symm⟩
      · refine ⟨0, Nat.zero_le _, fun j hj => ⟨sh o, v1, by rw [show j = 0 by omega]; exact ak_Pc_0.symm⟩, fun j h1 h2 t ht he => ?_⟩
        have := (w1.2.1 t ht).1
        rw [he, show j = 1 by omega, ak_Pc_1, List.length_append] at this
        simp at this
        omega
    obtain ⟨j0, u⟩ := hu
    by_cases hr : (T (sh o)).length = 12 ∨ 400 < S + (1 - j0)
    · left
      obtain ⟨v, h', ⟨rfl, f⟩, go⟩ := ak_MI_get (e := e) (r := 1) (d := d + 7) (ρ := ρ2) (am_s243 (d := d) (sv := sv2) (wv := wv2) (X := ak_F) (Q := fun v h' => v = 0 ∧ ak_wF hm h') w1 w3 ho2 v1 v4 u (fun _ h' f => ⟨rfl, f⟩) (fun hl hS2 => absurd hr (by omega)))
      exact ⟨8, h', Or.inr rfl, f, fun Q X q => linkC Q X (am_s157 (d := d) w1 w2 ho2 v2 v1 hit u (fun _ => q) (fun hl hS2 => absurd hr (by omega))), fun Q X q => linkM Q X (go _ _ ⟨fun _ => q, fun z => absurd rfl z⟩)⟩
    · right
      have hl : (T (sh o)).length < 12 := by omega
      have hS2 : S + (1 - j0) ≤ 400 := by omega
      have TT := ak_Tg_Tok w1 (ak_Pc_ch hl hit) u (1 - j0) (by have := u.1; omega) hS2
      obtain ⟨v, hc', ⟨rfl, t, c0, c1, c2, c3, c4, c5, c6, c7⟩, goc⟩ := ak_MI_get (e := e) (r := 0) (d := d + 2) (ρ := ρ) (am_s157 (d := d) (sv := sv) (wv := wv) (X := ak_F) (Q := fun v h' => v = 0 ∧ ∃ t, t < S + (1 - j0) ∧ ak_Tg S j0 T (ak_Pc (T (sh o)) (kd, x)) t = T (sh o) ++ [(kd, x)] ∧ ak_tC (S + (1 - j0)) (ak_Tg S j0 T (ak_Pc (T (sh o)) (kd, x))) h' ∧ h'.1 34 o = (t : Int) ∧
        (∀ k, k ≠ (T (sh o)).length → h'.1 35 (12 * o + k) = hc.1 35 (12 * o + k) ∧ h'.2.1 36 (12 * o + k) = hc.2.1 36 (12 * o + k)) ∧ h'.1 35 (12 * o + (T (sh o)).length) = sv ∧ h'.2.1 36 (12 * o + (T (sh o)).length) = wv ∧ ak_fA o hc h') w1 w2 ho2 v2 v1 hit u (fun z => absurd z hr) (fun _ _ t h' a1 a2 a3 a4 a5 a6 a7 a8 => ⟨rfl, t, a1, a2, a3, a4, a5, a6, a7, a8⟩))
      refine ⟨S + (1 - j0), ak_Tg S j0 T (ak_Pc (T (sh o)) (kd, x)), t, hc', by omega, fun s hs => ak_Tg_lt hs, TT, c0, fun he => ?_, c3, c7, fun Q X q => linkC Q X (goc _ _ q), fun Q X K => linkM Q X ?_⟩
      · rw [he, ak_Tg_lt v1] at c1
        have := congrArg List.length c1
        simp at this
      · refine am_s243 (d := d) w1 w3 ho2 v1 v4 u (fun z => absurd z hr) (fun _ _ t' h1 b1 b2 b3 b4 => ?_)
        have htt : t' = t := TT.2.2.2 t' t b1 c0 (b2.trans c1.symm)
        subst htt
        have n1 : h1.1 141 o = ((T (sh o)).length : Int) := (b4.1 _ _ (by omega) (by omega) (by omega)).trans v4.1
        refine ak_MV_imp (K h1 b4 b3) (fun h3 q => ⟨q.1.trans n1, fun z => absurd z (by decide), fun _ => ?_⟩) (fun _ _ q => q)
        exact q.2 _ (ak_cmM_fB hl) (by unfold ak_cmM; simp [am_up]) (fun fv => ak_WD_come w ho hl hit u hS2 c0 c1 c2 c3 c4 c5 c6 c7 hhv b3 b4 fv)
  have go : ∀ (g : Bool), (op = if g = true then 4 else 2) →
      (∃ (r : Int) (hm' : ak_S), (r = 7 ∨ r = 8) ∧ ak_wF hm hm' ∧ ak_goC e (d + 3) ρ 156 [am_r 33, am_i op, am_i (o : Int), am_i x, am_i sv, am_l wv] hc r hc ∧ ak_goI e (d + 8) ρ2 297 [am_r 110, am_i (o : Int), am_i op, am_i x, am_i sv', am_l wv'] hm r hm') ∨
      (∃ (S' : Nat) (T' : Nat → List (Int × Int)) (t : Nat) (hc' : ak_S), S ≤ S' ∧ (∀ s, s < S → T' s = T s) ∧ ak_Tok S' T' O ∧ t < S' ∧ t ≠ sh o ∧ hc'.1 34 o = (t : Int) ∧ ak_fA o hc hc' ∧ ak_goC e (d + 3) ρ 156 [am_r 33, am_i op, am_i (o : Int), am_i x, am_i sv, am_l wv] hc 0 hc' ∧
      ∀ (Q : Int → ak_S → Prop) (X : Nat → ak_S → Prop), (∀ h1, ak_wM hm h1 → ak_tM S' T' h1 → ak_MV e 1 (d + 6) ρ2 256 [am_r 110, am_i (o : Int)] h1 (fun h3 => h3.1 141 o = h1.1 141 o ∧ ∀ h4, ak_fB o h3 h4 → h4.1 110 67 = -1 → (ak_fV h1 h3 → ak_WD S' O B Mt T' (ak_sh sh o t) hc' h4) → Q 0 h4) (fun _ _ => False)) →
        ak_MI e 1 (d + 8) ρ2 297 [am_r 110, am_i (o : Int), am_i op, am_i x, am_i sv', am_l wv'] hm Q X) := by
    intro g hg
    by_cases hk : ak_look (T (sh o)) x g < 0
    · left
      refine ⟨7, hm, Or.inl rfl, ak_wF_refl, fun Q X q => am_c156_drop (d := d) (g := g) w1 w2 ho2 v2 v1 hg (fun _ => q) (fun k y _ _ z => by omega), fun Q X q => am_m297_drop (d := d) (g := g) hn2 ho2 v4 hg (fun _ => q) (fun k y _ _ z => by omega)⟩
    · obtain ⟨a, y, ha, ea, ya, -⟩ := ak_look_some (by omega : 0 ≤ ak_look (T (sh o)) x g)
      have ch := ak_Pg_ch (O := O) ha hn2 (w1.2.1 (sh o) v1).2
      obtain ⟨t0, -, et0⟩ := ak_Tok_take w1 (sh o) v1 a (by omega)
      obtain ⟨j0, u⟩ := ak_upto_of w1 ch (by
        obtain ⟨t0, h1, et0⟩ := ak_Tok_take w1 (sh o) v1 a (by omega)
        exact ⟨t0, by omega, by rw [et0]; unfold ak_Pg; simp⟩)
      have linkC : ∀ (Q : Int → ak_S → Prop) (X : Nat → ak_S → Prop), ak_MI e 0 (d + 2) ρ 158 [am_r 33, am_i (o : Int), am_i (a : Int)] hc (fun v h1 => Q v h1) (fun _ _ => False) → ak_MI e 0 (d + 3) ρ 156 [am_r 33, am_i op, am_i (o : Int), am_i x, am_i sv, am_l wv] hc Q X :=
        fun Q X q => am_c156_drop (d := d) (g := g) w1 w2 ho2 v2 v1 hg (fun z => absurd z hk) (fun k y _ _ z => by
          have : k = a := by omega
          subst this
          exact q)
      have linkM : ∀ (Q : Int → ak_S → Prop) (X : Nat → ak_S → Prop), ak_MI e 1 (d + 7) ρ2 244 [am_r 110, am_i (o : Int), am_i ((12 * o + a : Nat) : Int)] hm (fun v h1 => (v = 0 → Q 8 h1) ∧ (v ≠ 0 → Q 0 h1)) (fun _ _ => False) → ak_MI e 1 (d + 8) ρ2 297 [am_r 110, am_i (o : Int), am_i op, am_i x, am_i sv', am_l wv'] hm Q X :=
        fun Q X q => am_m297_drop (d := d) (g := g) hn2 ho2 v4 hg (fun z => absurd z hk) (fun k y _ _ z => by
          have : k = a := by omega
          subst this
          exact q)
      by_cases hr : 400 < S + ((T (sh o)).length - a - 1 - j0)
      · left
        obtain ⟨v, h', ⟨rfl, f⟩, go⟩ := ak_MI_get (e := e) (r := 1) (d := d + 7) (ρ := ρ2) (am_s244 (d := d) (X := ak_F) (Q := fun v h' => v = 0 ∧ ak_wF hm h') w1 w3 ho2 v1 v4 ha u (fun _ h' f => ⟨rfl, f⟩) (fun hS2 => absurd hr (by omega)))
        exact ⟨8, h', Or.inr rfl, f, fun Q X q => linkC Q X (am_s158 (d := d) w1 w2 ho2 v2 v1 ha u (fun _ => q) (fun hS2 => absurd hr (by omega))), fun Q X q => linkM Q X (go _ _ ⟨fun _ => q, fun z => absurd rfl z⟩)⟩
      · right
        have hS2 : S + ((T (sh o)).length - a - 1 - j0) ≤ 400 := by omega
        have TT := ak_Tg_Tok w1 ch u ((T (sh o)).length - a - 1 - j0) (by have := u.1; omega) hS2
        obtain ⟨v, hc', ⟨rfl, t, c0, c1, c2, c3, c4, c5, c6⟩, goc⟩ := ak_MI_get (e := e) (r := 0) (d := d + 2) (ρ := ρ) (am_s158 (d := d) (X := ak_F) (Q := fun v h' => v = 0 ∧ ∃ t, t < S + ((T (sh o)).length - a - 1 - j0) ∧ ak_Tg S j0 T (ak_Pg (T (sh o)) a) t = ak_Pg (T (sh o)) a ((T (sh o)).length - a - 1) ∧ ak_tC (S + ((T (sh o)).length - a - 1 - j0)) (ak_Tg S j0 T (ak_Pg (T (sh o)) a)) h' ∧ h'.1 34 o = (t : Int) ∧
          (∀ k, k < a → h'.1 35 (12 * o + k) = hc.1 35 (12 * o + k) ∧ h'.2.1 36 (12 * o + k) = hc.2.1 36 (12 * o + k)) ∧ (∀ k, a ≤ k → k + 1 < (T (sh o)).length → h'.1 35 (12 * o + k) = hc.1 35 (12 * o + (k + 1)) ∧ h'.2.1 36 (12 * o + k) = hc.2.1 36 (12 * o + (k + 1))) ∧ ak_fA o hc h') w1 w2 ho2 v2 v1 ha u (fun z => absurd z hr) (fun _ t h' a1 a2 a3 a4 a5 a6 a7 => ⟨rfl, t, a1, a2, a3, a4, a5, a6, a7⟩))
        refine ⟨S + ((T (sh o)).length - a - 1 - j0), ak_Tg S j0 T (ak_Pg (T (sh o)) a), t, hc', by omega, fun s hs => ak_Tg_lt hs, TT, c0, fun he => ?_, c3, c6, fun Q X q => linkC Q X (goc _ _ q), fun Q X K => linkM Q X ?_⟩
        · rw [he, ak_Tg_lt v1] at c1
          have := congrArg List.length c1
          rw [ak_Pg_len ha (Nat.le_refl _)] at this
          omega
        · refine am_s244 (d := d) w1 w3 ho2 v1 v4 ha u (fun z => absurd z hr) (fun _ t' h1 b1 b2 b3 b4 => ?_)
          have htt : t' = t := TT.2.2.2 t' t b1 c0 (b2.trans c1.symm)
          subst htt
          have n1 : h1.1 141 o = ((T (sh o)).length : Int) := (b4.1 _ _ (by omega) (by omega) (by omega)).trans v4.1
          refine ak_MV_imp (K h1 b4 b3) (fun h3 q => ⟨q.1.trans n1, fun h4 m4 => ⟨fun z => absurd z (by decide), fun _ => ?_⟩⟩) (fun _ _ q => q)
          exact q.2 h4 m4.2.2.2.2.2.2.2 m4.2.2.1 (fun fv => ak_WD_go w ho ha u hS2 c0 c1 c2 c3 c4 c5 c6 b3 b4 fv m4)
  by_cases h : op = 0 ∨ op = 1
  · skip
    have hv := h01 h
    by_cases hk : ak_look (T (sh o)) x false < 0
    · have := come op sv' wv' ⟨by show 0 ≤ op; omega, by show op ≤ 2; omega, fun z => by have : op = 2 := z; omega⟩ hv (fun Q X q => am_c156_slot (d := d) w1 w2 ho2 v2 v1 h (fun k y _ _ z => by omega) (fun _ => q)) (fun Q X q => am_m297_slot (d := d) hn2 ho2 v4 h (fun k y _ _ z => by omega) (fun _ => q))
      exact this.elim (fun q => Or.inl q) (fun q => Or.inr (Or.inr q))
    · obtain ⟨a, y, ha, ea, ya, yx, -⟩ := ak_look_some (by omega : 0 ≤ ak_look (T (sh o)) x false)
      by_cases hy : y.1 = op
      · refine Or.inr (Or.inl ⟨ak_hd hc o a sv wv, ak_hdM hm o a sv' wv', ak_WD_hold w ho ya ?_, ak_hd_fA (by omega), ?_, ?_, ?_, fun Q X q => am_c156_slot (d := d) w1 w2 ho2 v2 v1 h (fun k y2 k1 k2 z => ?_) (fun z => absurd z hk), fun Q X q => am_m297_slot (d := d) hn2 ho2 v4 h (fun k y2 k1 k2 z => ?_) (fun z => absurd z hk)⟩)
        · have : y = (op, x) := Prod.ext hy yx
          rw [this]; exact hv
        · refine ⟨fun q k a b c => ?_, fun q k b => ?_, rfl⟩
          · exact ak_up_out (f := hm.1) (p := 145) (by omega)
          · exact ak_up_out (f := hm.2.1) (p := 146) (by omega)
        · exact ak_up_out (f := hm.1) (p := 145) (k := 12 * o + a) (q := 110) (j := 67) (v := sv') (by omega)
        · exact ak_up_out (f := hc.1) (p := 35) (k := 12 * o + a) (q := 34) (j := o) (v := sv) (by omega)
        · have : k = a := by omega
          subst this
          rw [ya] at k2
          cases k2
          exact ⟨fun _ => q, fun z => absurd hy z⟩
        · have : k = a := by omega
          subst this
          rw [ya] at k2
          cases k2
          exact ⟨fun _ => q, fun z => absurd hy z⟩
      · refine Or.inl ⟨7, hm, Or.inl rfl, ak_wF_refl, fun Q X q => am_c156_slot (d := d) w1 w2 ho2 v2 v1 h (fun k y2 k1 k2 z => ?_) (fun z => absurd z hk), fun Q X q => am_m297_slot (d := d) hn2 ho2 v4 h (fun k y2 k1 k2 z => ?_) (fun z => absurd z hk)⟩
        · have : k = a := by omega
          subst this
          rw [ya] at k2
          cases k2
          exact ⟨fun z => absurd z hy, fun _ => q⟩
        · have : k = a := by omega
          subst this
          rw [ya] at k2
          cases k2
          exact ⟨fun z => absurd z hy, fun _ => q⟩
  have : op = 2 ∨ op = 3 ∨ op = 4 := by omega
  clear h
  rcases this with h | h | h
  · exact (go false (by rw [if_neg (by decide)]; exact h)).elim (fun q => Or.inl q) (fun q => Or.inr (Or.inr q))
  · subst h
    have hx3 := hx rfl
    by_cases hk : ak_look (T (sh o)) x true < 0
    · have := come 2 0 0 ⟨by show (0 : Int) ≤ 2; decide, by show (2 : Int) ≤ 2; decide, fun _ => hx3⟩ ⟨fun z => absurd z (by show ¬ (2 : Int) = 0; decide), fun z => absurd z (by show ¬ (2 : Int) = 1; decide)⟩ (fun Q X q => am_c156_link (d := d) w1 w2 ho2 v2 v1 (fun z => by omega) (fun _ => q)) (fun Q X q => am_m297_link (d := d) hn2 ho2 v4 (fun z => by omega) (fun _ => q))
      exact this.elim (fun q => Or.inl q) (fun q => Or.inr (Or.inr q))
    · exact Or.inl ⟨7, hm, Or.inl rfl, ak_wF_refl, fun Q X q => am_c156_link (d := d) w1 w2 ho2 v2 v1 (fun _ => q) (fun z => absurd z hk), fun Q X q => am_m297_link (d := d) hn2 ho2 v4 (fun _ => q) (fun z => absurd z hk)⟩
  · exact (go true (by rw [if_pos rfl]; exact h)).elim (fun q => Or.inl q) (fun q => Or.inr (Or.inr q))
end LKALT
