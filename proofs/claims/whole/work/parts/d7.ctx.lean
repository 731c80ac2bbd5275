/-! a text being loaded: what stays, what a call needs to know -/
section CTX
variable {e : ak_X3} {d S O B Mt NS us s n m : Nat} {ρ : List Nat} {T : Nat → List (Int × Int)} {sh : Nat → Nat} {h hc hm hc' hm' h0 m0 : ak_S} {E : Nat → List ak_E} {Et : List ak_E} {G : List (Int × Int × Int × Int)} {φ hr lv mt : Nat → Nat} {Us FR : List Nat} {b : Nat → Int} {z : Nat → Nat} {R : ak_S → ak_S → Prop}
theorem ak_ST_fr2 (w : ak_ST S O NS us T sh E Et G hc hm) (f : ∀ q k, (q = 44 ∧ k ≠ 7 ∧ k ≠ 8) ∨ q = 45 ∨ q = 47 ∨ q = 48 → hc'.1 q k = hc.1 q k) (g : ∀ k, hc'.2.1 46 k = hc.2.1 46 k) (m : ∀ q k, (q = 110 ∧ (k = 3 ∨ k = 71 ∨ k = 78 ∨ k = 84)) ∨ q = 127 ∨ q = 129 ∨ (158 ≤ q ∧ q ≤ 172) → hm'.1 q k = hm.1 q k) (l : ak_ly S O T sh hm') : ak_ST S O NS us T sh E Et G hc' hm' := by
  obtain ⟨⟨u1, u2, u3, u4⟩, si, ⟨t1, t3, t4, t5, t6⟩, ⟨g1, g2, g3⟩, ⟨m1, m2, m3⟩, ly⟩ := w
  refine ⟨⟨(m _ _ (by omega)).trans u1, u2, (m _ _ (by omega)).trans u3, u4⟩, fun i hi => ?_, ⟨t1, ak_gC_fr t3 (fun k _ _ => f 45 k (by omega)) (fun k _ _ => g k), ak_gM_fr t4 (fun q k _ _ _ _ => m q k (by omega)), (f _ _ (by omega)).trans t5, (m _ _ (by omega)).trans t6⟩, ⟨ak_gnC_fr g1 (fun q k hq => f q k (by omega)), ak_gnM_fr g2 (fun q k hq => m q k (by omega)), g3⟩, ⟨?_, ?_⟩, l⟩
  · obtain ⟨a, ⟨b1, b2, b3, b4⟩, ⟨x1, x2⟩, x3, x4, x5, x6, x7⟩ := si i hi
    refine ⟨a, ⟨ak_gC_fr b1 (fun k _ _ => f 45 k (by omega)) (fun k _ _ => g k), ak_gM_fr b2 (fun q k _ _ _ _ => m q k (by omega)), (f _ _ (by omega)).trans b3, (m _ _ (by omega)).trans b4⟩, ⟨?_, ?_⟩, ?_, ?_, ?_, ?_, ak_SN_fr x7 (fun q k hq => m q k (by omega))⟩
    · rw [f 47 _ (by omega), m 162 i (by omega)]; exact x1
    · rw [m 162 i (by omega)]; exact x2
    · rw [f 47 _ (by omega), m 158 i (by omega)]; exact x3
    · rw [f 47 _ (by omega), m 160 i (by omega)]; exact x4
    · rw [f 47 _ (by omega), m 161 i (by omega)]; exact x5
    · rw [f 47 _ (by omega), m 163 i (by omega)]; exact x6
  · rw [f 44 6 (by omega), m 110 71 (by omega)]; exact m1
  · rw [m 110 71 (by omega)]; exact ⟨m2, m3⟩
/-- what the calls that only ask may change -/
def ak_kC (hc hc' : ak_S) : Prop := (∀ q k, ¬ (q = 33 ∧ (k = 9 ∨ k = 10 ∨ k = 14)) → ¬ (42 ≤ q ∧ q ≤ 43) → ¬ (q = 44 ∧ (k = 7 ∨ k = 8)) → hc'.1 q k = hc.1 q k) ∧ ∀ q k, q ≠ 41 → hc'.2.1 q k = hc.2.1 q k
def ak_kM (hm hm' : ak_S) : Prop := (∀ q k, ¬ (q = 110 ∧ (k = 0 ∨ k = 62 ∨ k = 64 ∨ k = 67 ∨ k = 69 ∨ k = 70)) → ¬ (152 ≤ q ∧ q ≤ 157) → hm'.1 q k = hm.1 q k) ∧ ∀ q k, hm'.2.1 q k = hm.2.1 q k
theorem ak_T_bd (hs : s = 0 ∨ s = 1) : ak_T s = 9 ∨ ak_T s = 87 := by unfold ak_T; omega
theorem ak_LD_re (hs : s = 0 ∨ s = 1) (tx : ak_tx s us n m Mt b z h0 m0) (ag : ak_agT s us h0 m0 hc hm) (hO : 4 ≤ O) (wd : ak_WD S O B Mt T sh hc hm) (st : ak_ST S O (z 7) us T sh E Et G hc hm) (rm : ak_RM s us O B Mt φ hr lv mt Us FR [] h0 m0 hc hm) (jn : ak_jn hc hm)
    (fc : ak_kC hc hc') (fm : ak_kM hm hm') (ly : ak_ly S O T sh hm') : ak_LD s us hc' hm' := by
  have hT := ak_T_bd hs
  have c : ∀ q k, ¬ (q = 33 ∧ (k = 9 ∨ k = 10 ∨ k = 14)) → ¬ (42 ≤ q ∧ q ≤ 43) → ¬ (q = 44 ∧ (k = 7 ∨ k = 8)) → hc'.1 q k = hc.1 q k := fc.1
  refine ⟨h0, m0, b, n, m, Mt, z, S, O, B, T, sh, E, Et, G, φ, hr, lv, mt, Us, FR, tx, ak_agT_fr ag (fun q k g1 g2 => ⟨c q k (by omega) (by omega) (by omega), fc.2 q k (by omega)⟩) (fun q k g => fm.1 q k (by unfold ak_tmI at g; omega) (by unfold ak_tmI at g; omega)), ⟨hO, ?_⟩, ?_, ?_, ?_⟩
  · exact ak_WD_fr wd ⟨fun q k g => c q k (by omega) (by omega) (by omega), fun k => fc.2 36 k (by omega)⟩ ⟨fun q k g => fm.1 q k (by omega) (by omega), fun k => fm.2 146 k⟩
  · exact ak_ST_fr2 st (fun q k g => c q k (by omega) (by omega) (by omega)) (fun k => fc.2 46 k (by omega)) (fun q k g => fm.1 q k (by omega) (by omega)) ly
  · exact ak_RM_fr rm (fun q k g1 g2 => ⟨c q k (by omega) (by omega) (by omega), fc.2 q k (by omega)⟩) (fun q k g => ⟨fm.1 q k (by omega) (by omega), fm.2 q k⟩)
  · exact ak_jn_fr jn (fun q k g1 g2 => ⟨c q k (by omega) (by omega) (by omega), fc.2 q k (by omega)⟩) (fun q k g => ⟨fm.1 q k (by omega) (by omega), fm.2 q k⟩)
theorem ak_all_re (a : ak_all us hc hm) (fc : ak_kC hc hc') (fm : ak_kM hm hm') (wy : ∃ w, ak_wyS hm' w) : ak_all us hc' hm' :=
  ak_all_fr a (fun q k g => fc.1 q k (by omega) (by omega) (by omega)) (fun k => fc.2 5 k (by omega)) (fun q k g => fm.1 q k (by omega) (by omega)) wy
/-- what a call with a text loaded has to show -/
def ak_rr (s us : Nat) (R : ak_S → ak_S → Prop) (hc hm : ak_S) : Prop := ∀ hc' hm', hc'.2.2.1 ≤ hc.2.2.1 + 1 → hc'.2.2.2 ≤ hc.2.2.2 + 6 → ak_all us hc' hm' → ak_LD s us hc' hm' → hc'.1 1 8 = 1 → hm'.1 110 4 = 1 → (ak_em hc → ak_em hc') → R hc' hm'
theorem ak_kC_refl : ak_kC hc hc := ⟨fun _ _ _ _ _ => rfl, fun _ _ _ => rfl⟩
theorem ak_kM_no {x : Int} : ak_kM hm (ak_no hm x) := ⟨fun q k a _ => ak_up_out (by omega), fun _ _ => rfl⟩
theorem ak_ly_no {x : Int} (l : ak_ly S O T sh hm) : ak_ly S O T sh (ak_no hm x) := ak_ly_fr l (fun q k hq => ak_up_out (by omega))
theorem ak_wy_no {x : Int} (l : ∃ w, ak_wyS hm w) : ∃ w, ak_wyS (ak_no hm x) w := by
  obtain ⟨w, l⟩ := l
  exact ⟨w, ak_wyS_fr2 l (fun q k hq => ak_up_out (by omega))⟩
theorem ak_RR_of (hs : s = 0 ∨ s = 1) (a : ak_all us hc hm) (L : ak_LD s us hc hm) (k1 : hc.1 1 8 = 1) (k2 : hm.1 110 4 = 1) (r : ak_rr s us R hc hm) : ak_RR R hc hm := by
  obtain ⟨h0, m0, b, n, m, Mt, z, S, O, B, T, sh, E, Et, G, φ, hr, lv, mt, Us, FR, tx, ag, ⟨hO, wd⟩, st, rm, jn⟩ := L
  have k3 : ∀ x, (ak_no hm x).1 110 4 = 1 := fun x => (show am_up hm.1 110 0 x 110 4 = hm.1 110 4 from ak_up_out (by omega)).trans k2
  exact ⟨r _ _ (by omega) (by omega) (ak_all_re a ak_kC_refl ak_kM_no (ak_wy_no a.2.2.2.2.1)) (ak_LD_re hs tx ag hO wd st rm jn ak_kC_refl ak_kM_no (ak_ly_no st.2.2.2.2.2)) k1 (k3 0) (fun z => z),
    fun x => r _ _ (Nat.le_refl _) (Nat.le_refl _) (ak_all_re a ⟨fun _ _ _ _ _ => rfl, fun _ _ _ => rfl⟩ ak_kM_no (ak_wy_no a.2.2.2.2.1)) (ak_LD_re hs tx ag hO wd st rm jn ⟨fun _ _ _ _ _ => rfl, fun _ _ _ => rfl⟩ ak_kM_no (ak_ly_no st.2.2.2.2.2)) k1 (k3 x) (fun z => z)⟩
/-- the text's sizes and sites, now -/
theorem ak_tx_now (tx : ak_tx s us n m Mt b z h0 m0) (ag : ak_agT s us h0 m0 hc hm) : (hc.1 (ak_T s) 4 = (Mt : Int) ∧ hm.1 122 us = (Mt : Int) ∧ 1 ≤ Mt ∧ Mt ≤ 40) ∧ (hc.1 (ak_T s) 6 = (z 6 : Int) ∧ hm.1 131 us = (z 6 : Int) ∧ 1 ≤ z 6 ∧ z 6 ≤ 100) ∧
    (hc.1 (ak_T s) 10 = (z 7 : Int) ∧ hm.1 127 us = (z 7 : Int) ∧ z 7 ≤ 150) ∧ (hc.1 (ak_T s) 14 = (z 5 : Int) ∧ hm.1 134 us = (z 5 : Int) ∧ z 5 ≤ 60) ∧
    ∀ i, i < z 7 → hc.1 (ak_T s + 15) i = hm.1 128 (150 * us + i) ∧ hc.1 (ak_T s + 16) i = hm.1 129 (150 * us + i) ∧ hc.1 (ak_T s + 17) i = hm.1 130 (150 * us + i) := by
  obtain ⟨⟨p1, p2, p3, p4, ⟨n1, n2, n3, n4, n5, n6⟩, ⟨s1, s2, s3, s4⟩, ⟨q1, q2, q3, q4⟩, p8, p9, p10, p11, p12, p13, p14⟩, w2, w3, w4⟩ := tx
  have c : ∀ q k, ak_T s ≤ q → q ≤ ak_T s + 20 → hc.1 q k = h0.1 q k := fun q k a b => (ag.1 q k a b).1
  have g : ∀ q k, ak_tmI us q k → hm.1 q k = m0.1 q k := ag.2
  refine ⟨⟨(c _ _ (by omega) (by omega)).trans q2, (g _ _ (by unfold ak_tmI; omega)).trans q3, w2, q1⟩, ⟨(c _ _ (by omega) (by omega)).trans n3, (g _ _ (by unfold ak_tmI; omega)).trans n4, n1, n2⟩, ⟨(c _ _ (by omega) (by omega)).trans s2, (g _ _ (by unfold ak_tmI; omega)).trans s3, s1⟩, ⟨(c _ _ (by omega) (by omega)).trans p12, (g _ _ (by unfold ak_tmI; omega)).trans p13, p14⟩, fun i hi => ?_⟩
  rw [c _ _ (by omega) (by omega), c _ _ (by omega) (by omega), c _ _ (by omega) (by omega), g 128 _ (by unfold ak_tmI; omega), g 129 _ (by unfold ak_tmI; omega), g 130 _ (by unfold ak_tmI; omega)]
  have := s4 i hi
  exact ⟨this.1, this.2.1, this.2.2.1⟩
end CTX
