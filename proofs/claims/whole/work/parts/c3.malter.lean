/-! a change of an object, both sides at once: world and sites -/
def ak_mfC (h h' : ak_S) : Prop := (∀ q k, ¬ (q = 33 ∧ k = 4) → ¬ (34 ≤ q ∧ q ≤ 40) → ¬ (q = 44 ∧ (k = 4 ∨ k = 5)) → ¬ (q = 45 ∨ q = 47 ∨ q = 48) → h'.1 q k = h.1 q k) ∧ (∀ q k, q ≠ 36 → q ≠ 46 → h'.2.1 q k = h.2.1 q k) ∧ h'.2.2 = h.2.2
def ak_mfM (h h' : ak_S) : Prop := (∀ q k, ¬ (q = 110 ∧ (k = 53 ∨ k = 62 ∨ k = 64 ∨ k = 67 ∨ k = 78 ∨ k = 84)) → ¬ (141 ≤ q ∧ q ≤ 149) → ¬ (152 ≤ q ∧ q ≤ 172) → h'.1 q k = h.1 q k) ∧ (∀ q k, q ≠ 146 → h'.2.1 q k = h.2.1 q k) ∧ h'.2.2 = h.2.2
section MALT
variable {e : ak_X3} {d S O B Mt o NS us u r1 r2 : Nat} {ρ2 : List Nat} {T : Nat → List (Int × Int)} {sh : Nat → Nat} {h hc hm hc' hm' : ak_S} {E : Nat → List ak_E} {Et : List ak_E} {G : List (Int × Int × Int × Int)} {op x sv wv sv' wv' : Int}
theorem ak_ST_fr (w : ak_ST S O NS us T sh E Et G hc hm) (f : ∀ q k, q = 44 ∨ q = 45 ∨ q = 47 ∨ q = 48 → hc'.1 q k = hc.1 q k) (g : ∀ k, hc'.2.1 46 k = hc.2.1 46 k) (m : ∀ q k, (q = 110 ∧ (k = 3 ∨ k = 64 ∨ k = 67 ∨ k = 71 ∨ k = 78 ∨ k = 84)) ∨ q = 127 ∨ q = 129 ∨ q = 154 ∨ (157 ≤ q ∧ q ≤ 172) → hm'.1 q k = hm.1 q k) : ak_ST S O NS us T sh E Et G hc' hm' := by
  obtain ⟨⟨u1, u2, u3, u4⟩, si, ⟨t1, t3, t4, t5, t6⟩, ⟨g1, g2, g3⟩, ⟨m1, m2, m3⟩, ly⟩ := w
  refine ⟨⟨(m _ _ (by omega)).trans u1, u2, (m _ _ (by omega)).trans u3, u4⟩, fun i hi => ?_, ⟨t1, ak_gC_fr t3 (fun k _ _ => f 45 k (by omega)) (fun k _ _ => g k), ak_gM_fr t4 (fun q k _ _ _ _ => m q k (by omega)), (f _ _ (by omega)).trans t5, (m _ _ (by omega)).trans t6⟩, ⟨ak_gnC_fr g1 (fun q k hq => f q k (by omega)), ak_gnM_fr g2 (fun q k hq => m q k (by omega)), g3⟩, ⟨?_, ?_⟩, ak_ly_fr ly (fun q k hq => m q k (by omega))⟩
  · obtain ⟨a, ⟨b1, b2, b3, b4⟩, ⟨x1, x2⟩, x3, x4, x5, x6, x7⟩ := si i hi
    refine ⟨a, ⟨ak_gC_fr b1 (fun k _ _ => f 45 k (by omega)) (fun k _ _ => g k), ak_gM_fr b2 (fun q k _ _ _ _ => m q k (by omega)), (f _ _ (by omega)).trans b3, (m _ _ (by omega)).trans b4⟩, ⟨?_, ?_⟩, ?_, ?_, ?_, ?_, ak_SN_fr x7 (fun q k hq => m q k (by omega))⟩
    · rw [f 47 _ (by omega), m 162 i (by omega)]; exact x1
    · rw [m 162 i (by omega)]; exact x2
    · rw [f 47 _ (by omega), m 158 i (by omega)]; exact x3
    · rw [f 47 _ (by omega), m 160 i (by omega)]; exact x4
    · rw [f 47 _ (by omega), m 161 i (by omega)]; exact x5
    · rw [f 47 _ (by omega), m 163 i (by omega)]; exact x6
  · rw [f 44 6 (by omega), m 110 71 (by omega)]; exact m1
  · rw [m 110 71 (by omega)]; exact ⟨m2, m3⟩
theorem lk_malter (w : ak_WD S O B Mt T sh hc hm) (st : ak_ST S O NS us T sh E Et G hc hm) (hu : u = 0 ∨ u = 1) (ho : o < O) (hop : 0 ≤ op ∧ op ≤ 4) (hx : op = 3 → 0 ≤ x ∧ x < (O : Int)) (h01 : op = 0 ∨ op = 1 → ak_hv O B Mt (op, x) sv wv sv' wv') :
    ∃ (r : Int) (hc2 hm2 : ak_S) (S' : Nat) (T' : Nat → List (Int × Int)) (sh' : Nat → Nat) (E' : Nat → List ak_E) (Et' : List ak_E) (G' : List (Int × Int × Int × Int)), (r = 0 ∨ r = 7 ∨ r = 8) ∧ S ≤ S' ∧ (∀ s, s < S → T' s = T s) ∧ ak_WD S' O B Mt T' sh' hc2 hm2 ∧ ak_ST S' O NS us T' sh' E' Et' G' hc2 hm2 ∧ ak_mfC hc hc2 ∧ ak_mfM hm hm2 ∧
      ak_goC e (d + 5) [ak_T u, r1, r2, ak_T u, ak_T u + 1] 71 [am_r 32, am_i op, am_i (o : Int), am_i x, am_i sv, am_l wv] hc r hc2 ∧ ak_goI e (d + 8) ρ2 297 [am_r 110, am_i (o : Int), am_i op, am_i x, am_i sv', am_l wv'] hm r hm2 := by
  have w' := w
  obtain ⟨w1, w2, w3, ⟨w4, w5, w6⟩, w7⟩ := w'
  have b1 : 0 ≤ (o : Int) ∧ (o : Int) < 200 := by omega
  have same : ∀ (v : Int) (hc2 : ak_S), hc2.1 34 o = hc.1 34 o → ak_goC e (d + 3) [ak_T u, r1, r2, ak_T u, ak_T u + 1] 156 [am_r 33, am_i op, am_i (o : Int), am_i x, am_i sv, am_l wv] hc v hc2 → ak_goC e (d + 5) [ak_T u, r1, r2, ak_T u, ak_T u + 1] 71 [am_r 32, am_i op, am_i (o : Int), am_i x, am_i sv, am_l wv] hc v hc2 := by
    intro v hc2 h34 go Q X q
    refine ak_MI_of (Nat.le_of_ble_eq_true rfl) (am_k71_0 hu ⟨b1, ak_MI_deep (show d + 3 ≤ d + 4 by omega) (go _ _ ⟨b1, fun _ => q, fun g => absurd ?_ g⟩)⟩)
    rw [ak_natn]
    exact h34
  rcases lk_alter (e := e) (d := d) (ρ := [ak_T u, r1, r2, ak_T u, ak_T u + 1]) (ρ2 := ρ2) w ho hop hx h01 with ⟨r, hm', hr, f, gc, gm⟩ | ⟨hc', hm', wd, fa, fb, k67, k34, gc, gm⟩ | ⟨S', T', t, hc', hSS, hT, W', ht, hne, k34, fa, gc, K⟩
  · refine ⟨r, hc, hm', S, T, sh, E, Et, G, Or.inr hr, Nat.le_refl _, fun _ _ => rfl, ak_WD_fr w ⟨fun _ _ _ => rfl, fun _ => rfl⟩ ⟨fun q k hq => f.1 q k (by omega) (by omega), fun k => by rw [f.2]⟩, ak_ST_fr st (fun _ _ _ => rfl) (fun _ => rfl) (fun q k hq => f.1 q k (by omega) (by omega)), ⟨fun _ _ _ _ _ _ => rfl, fun _ _ _ _ => rfl, rfl⟩, ⟨fun q k a b c => f.1 q k (by omega) (by omega), fun q k _ => by rw [f.2], by rw [f.2]⟩, same r hc rfl gc, gm⟩
  · refine ⟨0, hc', hm', S, T, sh, E, Et, G, Or.inl rfl, Nat.le_refl _, fun _ _ => rfl, wd, ak_ST_fr st (fun q k hq => fa.1 q k (by omega) (by omega) (by omega) (by omega)) (fun k => fa.2.1 46 k (by omega)) (fun q k hq => ?_), ⟨fun q k a b c d' => fa.1 q k a (by omega) (by omega) (by omega), fun q k a _ => fa.2.1 q k (by omega), fa.2.2⟩, ⟨fun q k a b c => fb.1 q k (by omega) (by omega) (by omega), fun q k a => fb.2.1 q k (by omega), fb.2.2⟩, same 0 hc' k34 gc, gm⟩
    by_cases h67 : q = 110 ∧ k = 67
    · rw [h67.1, h67.2]; exact k67
    · exact fb.1 q k h67 (by omega) (by omega)
  · -- the shape is another one
    have hob : ∀ i, i < O → sh i < S ∧ ak_ob (T (sh i)) i hm := fun i hi => ⟨(w7 i hi).1, (w7 i hi).2.2.2.1⟩
    obtain ⟨v, hm2, ⟨rfl, E', Et', G', hc2, k1, k2, k3, k4, k5⟩, gm⟩ := ak_MI_get (e := e) (r := 1) (d := d + 8) (ρ := ρ2) (K (fun v hm2 => v = 0 ∧ ∃ (E' : Nat → List ak_E) (Et' : List ak_E) (G' : List (Int × Int × Int × Int)) (hc2 : ak_S), ak_fVc hc' hc2 ∧ (∀ (Q : ak_S → Prop) (X : Nat → ak_S → Prop), Q hc2 → ak_MV e 0 (d + 1 + 3) [ak_T u, r1, r2, ak_T u, ak_T u + 1] 116 [am_r 44, am_i (o : Int)] hc' Q X) ∧
      ak_WD S' O B Mt T' (ak_sh sh o t) hc2 hm2 ∧ ak_ST S' O NS us T' (ak_sh sh o t) E' Et' G' hc2 hm2 ∧ ak_mfM hm hm2) ak_F (fun h1 f1 M1 => by
      obtain ⟨E', Et', G', hc2, h3, c5, fv, goC, goM, fin⟩ := ak_ST_void (e := e) (d := d + 1) (ρ := [ak_T u, r1, r2, ak_T u, ak_T u + 1]) (ρ2 := ρ2) st w1 w4 hob W' hSS hT ho ht fa f1 M1
      refine goM _ _ ⟨fv.1 141 o (by omega) (by omega), fun h4 f4 h67 wd => ⟨rfl, E', Et', G', hc2, c5, goC, ak_WD_fr (wd fv) ⟨fun q k hq => c5.1 q k (by omega) (by omega) (by omega) (by omega), fun k => c5.2.1 36 k (by omega)⟩ ⟨fun _ _ _ => rfl, fun _ => rfl⟩, fin h4 f4 h67, ⟨fun q k a b c => ?_, fun q k a => ?_, ?_⟩⟩⟩
      · exact (f4.1 q k (by omega) (by omega) (by omega)).trans ((fv.1 q k (by omega) (by omega)).trans (f1.1 q k (by omega) (by omega) (by omega)))
      · rw [f4.2.1 q k (by omega), fv.2, f1.2]
      · rw [f4.2.2, fv.2, f1.2]))
    refine ⟨0, hc2, hm2, S', T', ak_sh sh o t, E', Et', G', Or.inl rfl, hSS, hT, k3, k4, ⟨fun q k a b c d' => (k1.1 q k c (by omega) (by omega) (by omega)).trans (fa.1 q k a (by omega) (by omega) (by omega)), fun q k a b => (k1.2.1 q k b).trans (fa.2.1 q k (by omega)), k1.2.2.trans fa.2.2⟩, k5, fun Q X q => ?_, gm⟩
    refine ak_MI_of (Nat.le_of_ble_eq_true rfl) (am_k71_0 hu ⟨b1, ak_MI_deep (show d + 3 ≤ d + 4 by omega) (gc _ _ ⟨b1, fun g => ?_, fun _ => k2 _ _ q⟩)⟩)
    rw [ak_natn, k34, (w7 o ho).2.1] at g
    exact absurd (by omega) hne
end MALT
