/-! the sites of both are alike; they are kept so when an object's shape changes -/
/-- what a site's own entries keep -/
def ak_SN (us i : Nat) (l : List ak_E) (hm : ak_S) : Prop := (∀ en, en ∈ l → en.2.1 = hm.1 129 (150 * us + i)) ∧ (0 ≤ hm.1 158 i ∧ hm.1 158 i ≤ 3) ∧ (hm.1 158 i = 0 → l.length = 0) ∧ (hm.1 158 i = 1 → l.length ≤ 1)
theorem ak_SN_fr {us i : Nat} {l : List ak_E} {h h' : ak_S} (w : ak_SN us i l h) (f : ∀ q k, q = 129 ∨ q = 158 → h'.1 q k = h.1 q k) : ak_SN us i l h' := by
  unfold ak_SN
  rw [f 129 _ (by omega), f 158 _ (by omega)]
  exact w
theorem ak_SN_sub {us i : Nat} {l l' : List ak_E} {h h' : ak_S} (w : ak_SN us i l h) (f : ∀ q k, q = 129 ∨ q = 158 → h'.1 q k = h.1 q k) (s : ∀ en, en ∈ l' → en ∈ l) (n : l'.length ≤ l.length) : ak_SN us i l' h' := by
  unfold ak_SN
  rw [f 129 _ (by omega), f 158 _ (by omega)]
  exact ⟨fun en he => w.1 en (s en he), w.2.1, fun g => by have := w.2.2.1 g; omega, fun g => by have := w.2.2.2 g; omega⟩
def ak_ST (S O NS us : Nat) (T : Nat → List (Int × Int)) (sh : Nat → Nat) (E : Nat → List ak_E) (Et : List ak_E) (G : List (Int × Int × Int × Int)) (hc hm : ak_S) : Prop :=
  (hm.1 110 3 = (us : Int) ∧ us < 2 ∧ hm.1 127 us = (NS : Int) ∧ NS ≤ 150) ∧
  (∀ i, i < 150 → ((E i).length ≤ 4 ∧ (NS ≤ i → E i = []) ∧ ∀ en, en ∈ E i → ak_eok S O T sh en) ∧ (ak_gC (ak_er T sh O) (4 * i) (E i) hc ∧ ak_gM (4 * i) (E i) hm ∧ hc.1 47 (6 * i + 1) = ((E i).length : Int) ∧ hm.1 159 i = ((E i).length : Int)) ∧ (hc.1 47 (6 * i + 4) = hm.1 162 i ∧ am_w32 (hm.1 162 i) = hm.1 162 i) ∧
    hc.1 47 (6 * i) = hm.1 158 i ∧ hc.1 47 (6 * i + 2) = hm.1 160 i ∧ hc.1 47 (6 * i + 3) = hm.1 161 i ∧ hc.1 47 (6 * i + 5) = hm.1 163 i ∧ ak_SN us i (E i) hm) ∧
  ((Et.length ≤ 128 ∧ ∀ en, en ∈ Et → ak_eok S O T sh en) ∧ ak_gC (ak_er T sh O) 600 Et hc ∧ ak_gM 600 Et hm ∧ hc.1 44 4 = (Et.length : Int) ∧ hm.1 110 78 = (Et.length : Int)) ∧
  (ak_gnC G hc ∧ ak_gnM G hm ∧ G.length ≤ 728) ∧ (hc.1 44 6 = hm.1 110 71 ∧ 0 ≤ hm.1 110 71 ∧ hm.1 110 71 ≤ 2) ∧ ak_ly S O T sh hm
section STS
variable {e : ak_X3} {d S S' O o t NS us : Nat} {ρ ρ2 : List Nat} {T T' : Nat → List (Int × Int)} {sh : Nat → Nat} {h hc hm hc' h1 : ak_S} {E : Nat → List ak_E} {Et : List ak_E} {R R' : ak_E → List Nat} {G : List (Int × Int × Int × Int)} {X : Nat → ak_S → Prop}
theorem ak_gC_congr {first : Nat} {E : List ak_E} (w : ak_gC R first E h) (f : ∀ en, en ∈ E → R' en = R en) : ak_gC R' first E h := fun k en hk => by
  rw [f en (List.mem_of_getElem? hk)]
  exact w k en hk
theorem ak_gl_nil {n : Nat} (h : ∀ i, NS ≤ i → i < n → E i = []) (hn : NS ≤ n) : ak_gl R o E n = ak_gl R o E NS := by
  induction n with
  | zero => rw [show NS = 0 by omega]
  | succ n ih =>
    by_cases hs : NS = n + 1
    · rw [hs]
    · have : ak_gl R o E (n + 1) = ak_gl R o E n ++ ((E n).filter (fun en => !ak_kp R o en)).map (ak_gg (n : Int)) := rfl
      rw [this, h n (by omega) (by omega), ih (fun i a b => h i a (by omega)) (by omega)]
      simp
theorem ak_ST_void (w : ak_ST S O NS us T sh E Et G hc hm) (W : ak_Tok S T O) (hO : O ≤ 200) (hob : ∀ i, i < O → sh i < S ∧ ak_ob (T (sh i)) i hm) (W' : ak_Tok S' T' O) (hSS : S ≤ S') (hT : ∀ s, s < S → T' s = T s) (ho : o < O) (ht : t < S') (fC : ak_fA o hc hc') (fM : ak_wM hm h1) (M1 : ak_tM S' T' h1) :
    ∃ (E' : Nat → List ak_E) (Et' : List ak_E) (G' : List (Int × Int × Int × Int)) (hc2 h3 : ak_S), ak_fVc hc' hc2 ∧ ak_fV h1 h3 ∧ (∀ (Q : ak_S → Prop) (X : Nat → ak_S → Prop), Q hc2 → ak_MV e 0 (d + 3) ρ 116 [am_r 44, am_i (o : Int)] hc' Q X) ∧
      (∀ (Q : ak_S → Prop) (X : Nat → ak_S → Prop), Q h3 → ak_MV e 1 (d + 5) ρ2 256 [am_r 110, am_i (o : Int)] h1 Q X) ∧ ∀ h4, ak_fB o h3 h4 → h4.1 110 67 = -1 → ak_ST S' O NS us T' (ak_sh sh o t) E' Et' G' hc2 h4 := by
  obtain ⟨⟨u1, u2, u3, u4⟩, si, ⟨⟨t1, t2⟩, t3, t4, t5, t6⟩, ⟨g1, g2, g3⟩, ⟨m1, m2, m3⟩, ly⟩ := w
  have hs : ∀ i, i < O → sh i < S := fun i h => (hob i h).1
  have hs1 : ∀ i, i < O → sh i < S' := fun i h => by have := hs i h; omega
  have hs2 : ∀ i, i < O → ak_sh sh o t i < S' := fun i h => by
    unfold ak_sh
    split
    · exact ht
    · exact hs1 i h
  have wy1 : ∀ s, s < S → ak_Wy T' sh O s = ak_Wy T sh O s := fun s h => ak_Wy_new W hs W' hs1 (Nat.le_refl _) (fun i hi => hT _ (hs i hi)) h (hT s h)
  have er1 : ∀ en, ak_eok S O T sh en → ak_er T' sh O en = ak_er T sh O en := fun en h => by unfold ak_er; rw [wy1 _ h.1]
  have eok1 : ∀ en, ak_eok S O T sh en → ak_eok S' O T' sh en := fun en h => ⟨by have := h.1; omega, ⟨h.2.1.1, h.2.1.2.trans (ak_lu_new W hs W' hs1 (Nat.le_refl _) (fun i hi => hT _ (hs i hi)) h.1 (hT _ h.1)).symm⟩, by rw [wy1 _ h.1]; exact h.2.2⟩
  have chg : ∀ en, ak_eok S' O T' sh en → ak_kp (ak_er T' sh O) o en = true → ak_er T' (ak_sh sh o t) O en = ak_er T' sh O en ∧ ak_eok S' O T' (ak_sh sh o t) en := fun en h hk => by
    have := ak_Wy_chg (o := o) (sh' := ak_sh sh o t) W' hs1 W' hs2 (fun i hi hio => by unfold ak_sh; rw [if_neg hio]) h.1 rfl h.2.2 (of_decide_eq_true hk)
    have lc := ak_lu_chg (o := o) (sh' := ak_sh sh o t) (nm := en.2.1) (start := en.2.2.1) W' hs1 W' hs2 (fun i hi hio => by unfold ak_sh; rw [if_neg hio]) h.1 rfl (by rw [← h.2.1.2]; exact of_decide_eq_true hk)
    exact ⟨this.1, h.1, ⟨h.2.1.1, h.2.1.2.trans lc.symm⟩, this.2⟩
  -- the one
  obtain ⟨hc2, ⟨c1, c2, c3, c4, c5⟩, goC⟩ := ak_MV_get (e := e) (r := 0) (d := d + 3) (ρ := ρ) (am_s116 (d := d) (o := o) (h := hc') (R := ak_er T' sh O) (E := E) (Et := Et) (V := fun i => hm.1 162 i) (X := ak_F)
    (Q := fun h' => (∀ i, i < 150 → ak_gC (ak_er T' sh O) (4 * i) ((E i).filter (ak_kp (ak_er T' sh O) o)) h' ∧ h'.1 47 (6 * i + 1) = (((E i).filter (ak_kp (ak_er T' sh O) o)).length : Int) ∧ h'.1 47 (6 * i + 4) = am_w32 (hm.1 162 i + (((E i).length : Int) - (((E i).filter (ak_kp (ak_er T' sh O) o)).length : Int)))) ∧ ak_gC (ak_er T' sh O) 600 (Et.filter (ak_kp (ak_er T' sh O) o)) h' ∧ h'.1 44 4 = ((Et.filter (ak_kp (ak_er T' sh O) o)).length : Int) ∧
      ak_gnC (ak_gl (ak_er T' sh O) o E 150 ++ (Et.filter (fun en => !ak_kp (ak_er T' sh O) o en)).map (ak_gg (-1))) h' ∧ ak_fVc hc' h') (by omega)
    (fun i hi => by
      obtain ⟨⟨a1, a2, a3⟩, ⟨b1, b2, b3, b4⟩, ⟨x1, x2⟩, x3⟩ := si i hi
      exact ⟨a1, ak_gC_congr (ak_gC_fr b1 (fun k _ _ => fC.1 45 k (by omega) (by omega) (by omega) (by omega)) (fun k _ _ => fC.2.1 46 k (by omega))) (fun en he => er1 en (a3 en he)), (fC.1 _ _ (by omega) (by omega) (by omega) (by omega)).trans b3, (fC.1 _ _ (by omega) (by omega) (by omega) (by omega)).trans x1⟩)
    ⟨t1, ak_gC_congr (ak_gC_fr t3 (fun k _ _ => fC.1 45 k (by omega) (by omega) (by omega) (by omega)) (fun k _ _ => fC.2.1 46 k (by omega))) (fun en he => er1 en (t2 en he)), (fC.1 _ _ (by omega) (by omega) (by omega) (by omega)).trans t5⟩
    (fun h' a1 a2 a3 a4 a5 => ⟨a1, a2, a3, a4, a5⟩))
  -- the other
  have CT : ak_CT S' O T' sh h1 := by
    refine ⟨M1, fun i hi => ⟨hs1 i hi, ?_⟩, ?_⟩
    · rw [hT _ (hs i hi)]
      exact ak_ob_M (hob i hi).2 fM
    · obtain ⟨wl, l1, l2⟩ := ly
      refine ⟨wl, ak_wyS_fr l1 (fun q k hq => fM.1 q k (by omega) (by omega) (by omega)), ?_⟩
      rw [fM.1 110 67 (by omega) (by omega) (by omega)]
      rcases l2 with l2 | ⟨s, z1, z2, z3⟩
      · exact Or.inl l2
      · exact Or.inr ⟨s, by omega, z2, by rw [wy1 s z1]; exact z3⟩
  obtain ⟨h3, ⟨d1, d2, d3, d4, d5, d6⟩, goM⟩ := ak_MV_get (e := e) (r := 1) (d := d + 5) (ρ := ρ2) (am_s256 (d := d) (o := o) (h := h1) (us := us) (NS := NS) (T := T') (sh := sh) (E := E) (Et := Et) (V := fun i => hm.1 162 i) (X := ak_F)
    (Q := fun h' => ak_CT S' O T' sh h' ∧ (∀ i, i < NS → ak_gM (4 * i) ((E i).filter (ak_kp (ak_er T' sh O) o)) h' ∧ h'.1 159 i = (((E i).filter (ak_kp (ak_er T' sh O) o)).length : Int) ∧ h'.1 162 i = am_w32 (hm.1 162 i + (((E i).length : Int) - (((E i).filter (ak_kp (ak_er T' sh O) o)).length : Int)))) ∧ ak_gM 600 (Et.filter (ak_kp (ak_er T' sh O) o)) h' ∧ h'.1 110 78 = ((Et.filter (ak_kp (ak_er T' sh O) o)).length : Int) ∧
      ak_gnM (ak_gl (ak_er T' sh O) o E NS ++ (Et.filter (fun en => !ak_kp (ak_er T' sh O) o en)).map (ak_gg (-1))) h' ∧ ak_fVs NS h1 h') W' hO CT ((fM.1 _ _ (by omega) (by omega) (by omega)).trans u1) u2 ((fM.1 _ _ (by omega) (by omega) (by omega)).trans u3) u4
    (fun i hi => by
      obtain ⟨⟨a1, a2, a3⟩, ⟨b1, b2, b3, b4⟩, ⟨x1, x2⟩, x3⟩ := si i (by omega)
      exact ⟨a1, ak_gM_fr b2 (fun q k _ _ _ _ => fM.1 q k (by omega) (by omega) (by omega)), fun en he => eok1 en (a3 en he), (fM.1 _ _ (by omega) (by omega) (by omega)).trans b4, fM.1 _ _ (by omega) (by omega) (by omega), x2⟩)
    ⟨t1, ak_gM_fr t4 (fun q k _ _ _ _ => fM.1 q k (by omega) (by omega) (by omega)), fun en he => eok1 en (t2 en he), (fM.1 _ _ (by omega) (by omega) (by omega)).trans t6⟩
    (fun h' a1 a2 a3 a4 a5 a6 => ⟨a1, a2, a3, a4, a5, a6⟩))
  have gl150 : ak_gl (ak_er T' sh O) o E 150 = ak_gl (ak_er T' sh O) o E NS := ak_gl_nil (fun i a b => (si i b).1.2.1 a) u4
  rw [gl150] at c4
  refine ⟨fun i => (E i).filter (ak_kp (ak_er T' sh O) o), Et.filter (ak_kp (ak_er T' sh O) o), ak_gl (ak_er T' sh O) o E NS ++ (Et.filter (fun en => !ak_kp (ak_er T' sh O) o en)).map (ak_gg (-1)), hc2, h3, c5, ⟨fun q k a b => d6.1 q k a (by omega) (by omega) (by omega), d6.2⟩, fun Q X q => goC _ _ q, fun Q X q => goM _ _ q, fun h4 f4 h67 => ?_⟩
  have F : ∀ q k, ¬ (q = 110 ∧ (k = 64 ∨ k = 67 ∨ k = 78 ∨ k = 84)) → ¬ (141 ≤ q ∧ q ≤ 149) → ¬ (152 ≤ q ∧ q ≤ 157) → ¬ (q = 110 ∧ (k = 53 ∨ k = 62)) → ¬ (164 ≤ q ∧ q ≤ 172) → ¬ ((q = 159 ∨ q = 162) ∧ k < NS) → h4.1 q k = hm.1 q k := fun q k a b c d' e' f' => (f4.1 q k (by omega) (by omega) (by omega)).trans ((d6.1 q k a (by omega) e' f').trans (fM.1 q k d' (by omega) (by omega)))
  have FC : ∀ q k, ¬ (q = 44 ∧ (k = 4 ∨ k = 5)) → q = 44 ∨ (q = 47 ∧ ¬ (k % 6 = 1 ∨ k % 6 = 4)) → hc2.1 q k = hc.1 q k := fun q k a b => (c5.1 q k a (by omega) (by omega) (by omega)).trans (fC.1 q k (by omega) (by omega) (by omega) (by omega))
  have F4 : ∀ q k, ¬ (q = 110 ∧ k = 67) → ¬ (141 ≤ q ∧ q ≤ 145) → h4.1 q k = h3.1 q k := fun q k a b => f4.1 q k a (by omega) (by omega)
  refine ⟨⟨(F _ _ (by omega) (by omega) (by omega) (by omega) (by omega) (by omega)).trans u1, u2, (F _ _ (by omega) (by omega) (by omega) (by omega) (by omega) (by omega)).trans u3, u4⟩, fun i hi => ?_, ⟨⟨?_, fun en he => ?_⟩, ?_, ak_gM_fr d3 (fun q k _ _ _ _ => F4 q k (by omega) (by omega)), c3, (F4 _ _ (by omega) (by omega)).trans d4⟩, ⟨c4, ak_gnM_fr d5 (fun q k hq => F4 q k (by omega) (by omega)), ?_⟩, ⟨?_, ?_⟩, ?_⟩
  · obtain ⟨⟨a1, a2, a3⟩, ⟨b1, b2, b3, b4⟩, ⟨x1, x2⟩, x3, x4, x5, x6, x7⟩ := si i hi
    obtain ⟨y1, y2, y3⟩ := c1 i hi
    have hf := List.length_filter_le (ak_kp (ak_er T' sh O) o) (E i)
    refine ⟨⟨by show ((E i).filter _).length ≤ 4; omega, fun hn => by show (E i).filter _ = []; rw [a2 hn]; rfl, fun en he => ?_⟩, ⟨ak_gC_congr y1 (fun en he => ?_), ?_, y2, ?_⟩, ⟨?_, ?_⟩, ?_, ?_, ?_, ?_, ?_⟩
    · have z := List.mem_filter.mp he
      exact (chg en (eok1 en (a3 en z.1)) z.2).2
    · have z := List.mem_filter.mp he
      exact (chg en (eok1 en (a3 en z.1)) z.2).1
    · by_cases hn : i < NS
      · exact ak_gM_fr (d2 i hn).1 (fun q k _ _ _ _ => F4 q k (by omega) (by omega))
      · intro k en hk
        have : (E i).filter (ak_kp (ak_er T' sh O) o) = [] := by rw [a2 (by omega)]; rfl
        have hk' : ((E i).filter (ak_kp (ak_er T' sh O) o))[k]? = some en := hk
        rw [this] at hk'
        simp at hk'
    · by_cases hn : i < NS
      · exact (F4 _ _ (by omega) (by omega)).trans (d2 i hn).2.1
      · rw [F 159 i (by omega) (by omega) (by omega) (by omega) (by omega) (by omega), b4]
        show ((E i).length : Int) = (((E i).filter (ak_kp (ak_er T' sh O) o)).length : Int)
        rw [a2 (by omega)]
        rfl
    · by_cases hn : i < NS
      · exact y3.trans ((F4 _ _ (by omega) (by omega)).trans (d2 i hn).2.2).symm
      · rw [F 162 i (by omega) (by omega) (by omega) (by omega) (by omega) (by omega), y3, a2 (by omega)]
        show am_w32 (hm.1 162 i + (((0 : Nat) : Int) - ((0 : Nat) : Int))) = hm.1 162 i
        rw [show hm.1 162 i + (((0 : Nat) : Int) - ((0 : Nat) : Int)) = hm.1 162 i by omega]
        exact x2
    · by_cases hn : i < NS
      · rw [F4 162 i (by omega) (by omega), (d2 i hn).2.2]
        have := ak_w32_add (a := hm.1 162 i + (((E i).length : Int) - (((E i).filter (ak_kp (ak_er T' sh O) o)).length : Int))) (b := 0)
        rw [Int.add_zero, Int.add_zero] at this
        exact this
      · rw [F 162 i (by omega) (by omega) (by omega) (by omega) (by omega) (by omega)]
        exact x2
    · rw [FC 47 _ (by omega) (by omega), F 158 i (by omega) (by omega) (by omega) (by omega) (by omega) (by omega)]; exact x3
    · rw [FC 47 _ (by omega) (by omega), F 160 i (by omega) (by omega) (by omega) (by omega) (by omega) (by omega)]; exact x4
    · rw [FC 47 _ (by omega) (by omega), F 161 i (by omega) (by omega) (by omega) (by omega) (by omega) (by omega)]; exact x5
    · rw [FC 47 _ (by omega) (by omega), F 163 i (by omega) (by omega) (by omega) (by omega) (by omega) (by omega)]; exact x6
    · exact ak_SN_sub x7 (fun q k hq => F q k (by omega) (by omega) (by omega) (by omega) (by omega) (by omega)) (fun en he => (List.mem_filter.mp he).1) hf
  · have := List.length_filter_le (ak_kp (ak_er T' sh O) o) Et
    omega
  · have z := List.mem_filter.mp he
    exact (chg en (eok1 en (t2 en z.1)) z.2).2
  · refine ak_gC_congr c2 (fun en he => ?_)
    have z := List.mem_filter.mp he
    exact (chg en (eok1 en (t2 en z.1)) z.2).1
  · rw [List.length_append, List.length_map]
    have z1 := ak_gl_len (R := ak_er T' sh O) (o := o) (E := E) (NS := NS) (fun i hi => (si i (by omega)).1.1) NS (Nat.le_refl _)
    have z2 := List.length_filter_le (fun en => !ak_kp (ak_er T' sh O) o en) Et
    omega
  · rw [FC 44 6 (by omega) (by omega), F 110 71 (by omega) (by omega) (by omega) (by omega) (by omega) (by omega)]; exact m1
  · rw [F 110 71 (by omega) (by omega) (by omega) (by omega) (by omega) (by omega)]; exact ⟨m2, m3⟩
  · obtain ⟨wl, l1, l2⟩ := d1.2.2
    exact ⟨wl, ak_wyS_fr l1 (fun q k hq => F4 q k (by omega) (by omega)), Or.inl h67⟩
end STS
