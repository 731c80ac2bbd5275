/-! the run: frames are closed -/
section CLS
variable {e : ak_X3} {d ρ1 ρ2 : Nat} {c : ak_Cx}
theorem ak_nH_bd {hc : ak_S} : ∀ {fs : List ak_Fr}, (∀ k, k < fs.length → hc.1 76 k = 0 ∨ hc.1 76 k = 1) → 0 ≤ ak_nH hc fs ∧ ak_nH hc fs ≤ fs.length := by
  intro fs
  induction fs with
  | nil => intro _; exact ⟨Int.le_refl _, Int.le_refl _⟩
  | cons f fs ih =>
    intro h
    have := ih (fun k hk => h k (by rw [List.length_cons]; omega))
    have h2 := h fs.length (by rw [List.length_cons]; omega)
    show 0 ≤ ak_nH hc fs + hc.1 76 fs.length ∧ ak_nH hc fs + hc.1 76 fs.length ≤ ((fs.length + 1 : Nat) : Int)
    omega
theorem ak_LO_row {g : ak_Gh} {hc hm : ak_S} : ∀ {fs : List ak_Fr} {aw : List Bool}, ak_LO c g hc hm aw fs → (∀ p f q, fs = p ++ f :: q → hc.1 70 q.length = (f.r : Int) ∧ (hc.1 76 q.length = 0 ∨ hc.1 76 q.length = 1) ∧ f.r ∈ g.Us ∧ hc.1 54 f.r = (q.length : Int)) ∧ (∀ k, k < fs.length → hc.1 76 k = 0 ∨ hc.1 76 k = 1) ∧ (∀ y, y ∈ ak_rms fs → y ∈ g.Us ∧ 0 ≤ hc.1 54 y ∧ hc.1 54 y < fs.length) ∧ (ak_rms fs).Nodup := by
  intro fs
  induction fs with
  | nil => intro aw _; exact ⟨fun p f q h => by (cases p <;> cases h), fun k hk => absurd hk (Nat.not_lt_zero _), fun y hy => (by cases hy), List.nodup_nil⟩
  | cons f fs ih =>
    intro aw ⟨⟨⟨a1, a2, a3, a4, a5, a6, a7, a8, a9, a10⟩, _⟩, w2⟩
    obtain ⟨i1, i2, i3, i4⟩ := ih w2
    refine ⟨fun p x q h => ?_, fun k hk => ?_, fun y hy => ?_, ?_⟩
    · cases p with
      | nil => cases h; exact ⟨a2, a9, a1, a10⟩
      | cons p0 p => rw [List.cons_append] at h; exact i1 p x q (List.cons.inj h).2
    · rw [List.length_cons] at hk
      by_cases h : k = fs.length
      · rw [h]; exact a9
      · exact i2 k (by omega)
    · rw [List.length_cons]
      rcases List.mem_cons.mp (show y ∈ f.r :: ak_rms fs from hy) with rfl | hy
      · exact ⟨a1, by omega, by omega⟩
      · have := i3 y hy
        exact ⟨this.1, this.2.1, by omega⟩
    · refine List.nodup_cons.mpr ⟨fun h => ?_, i4⟩
      have := i3 f.r h
      omega
theorem ak_close : ∀ (up : List ak_Fr) (g : ak_Gh) (hc hmO : ak_S) (lo : List ak_Fr) (x : Nat), ak_SPP c g (ak_rms (up ++ lo)) hc hmO → (ak_rms (up ++ lo)).Nodup → (∀ p f q, up ++ lo = p ++ f :: q → hc.1 70 q.length = (f.r : Int) ∧ (hc.1 76 q.length = 0 ∨ hc.1 76 q.length = 1) ∧ f.r ∈ g.Us) →
    hc.1 69 7 = ((up ++ lo).length : Int) → hc.1 69 8 = ak_nH hc (up ++ lo) → (up ++ lo).length ≤ 60 → up.length + x ≤ 60 →
    ∃ g' hc', (∀ (Q : ak_S → Prop) (X : Nat → ak_S → Prop), Q hc' → ak_W0 e 0 (d + 20) 104 (ak_rc c.s ρ1 ρ2) 2 [some (am_r 32), some (am_i (lo.length : Int)), some (am_i (x : Int))] [] hc (ak_qv Q X)) ∧ hc'.1 69 7 = (lo.length : Int) ∧ hc'.1 69 8 = ak_nH hc lo ∧
      (∀ q k, ¬ (q = 69 ∧ (k = 7 ∨ k = 8)) → ¬ (q = 54 ∧ k ∈ ak_rms up) → q ≠ 60 → ¬ (q = 49 ∧ k = 11) → hc'.1 q k = hc.1 q k) ∧ hc'.2 = hc.2 ∧ (g'.O = g.O ∧ g'.B = g.B ∧ g'.φ = g.φ ∧ g'.hr = g.hr ∧ g'.mt = g.mt ∧ g'.lv = g.lv ∧ ∀ y, y ∈ g.Us → y ∉ ak_rms up → y ∈ g'.Us) ∧
      ∀ hm : ak_S, (∀ q k, ak_stM q k → ¬ ((q = 173 ∨ q = 175) ∧ ∃ y, y ∈ ak_rms up ∧ k = g.φ y) → hm.1 q k = hmO.1 q k) → (∀ q k, ak_stM q k → hm.2.1 q k = hmO.2.1 q k) → (∀ y, y ∈ ak_rms up → hm.1 175 (g.φ y) = 0 ∧ hm.1 173 (g.φ y) = hmO.1 174 (g.φ y)) → ak_SPP c g' (ak_rms lo) hc' hm := by
  intro up
  induction up with
  | nil =>
    intro g hc hmO lo x sp nd rw' h7 h8 hl hx
    rw [List.nil_append] at sp h7 h8
    refine ⟨g, hc, fun Q X q => am_k104_2 sp.1.1 ⟨fun _ => q, fun _ => ⟨fun _ => q, fun z => absurd z (by rw [h7]; omega)⟩⟩, h7, h8, fun _ _ _ _ _ _ => rfl, rfl, ⟨rfl, rfl, rfl, rfl, rfl, rfl, fun y hy _ => hy⟩, fun hm h1 h2 _ => ak_SP_fr sp (fun _ _ _ => ⟨rfl, rfl⟩) (fun q k h => ⟨h1 q k h (fun z => by obtain ⟨_, y, hy, _⟩ := z; cases hy), h2 q k h⟩)⟩
  | cons f up ih =>
    intro g hc hmO lo x sp nd rw' h7 h8 hl hx
    rw [List.cons_append] at sp nd rw' h7 h8 hl
    rw [List.length_cons] at h7 hl hx
    obtain ⟨r1, r2, r3⟩ := rw' [] f (up ++ lo) rfl
    have nd2 := List.nodup_cons.mp (show (f.r :: ak_rms (up ++ lo)).Nodup from nd)
    have h76 : ∀ k, k < (f :: (up ++ lo)).length → hc.1 76 k = 0 ∨ hc.1 76 k = 1 := by
      intro k hk
      have : ∀ (l : List ak_Fr), k < l.length → ∃ p z q, l = p ++ z :: q ∧ q.length = k := by
        intro l
        induction l with
        | nil => intro h; exact absurd h (Nat.not_lt_zero _)
        | cons a l il =>
          intro h
          rw [List.length_cons] at h
          by_cases hk : k = l.length
          · exact ⟨[], a, l, rfl, hk.symm⟩
          · obtain ⟨p, z, q, h1, h2⟩ := il (by omega)
            exact ⟨a :: p, z, q, by rw [h1]; rfl, h2⟩
      obtain ⟨p, z, q, h1, h2⟩ := this _ hk
      rw [← h2]
      exact (rw' p z q h1).2.1
    have bH := ak_nH_bd h76
    rw [List.length_cons] at bH
    generalize hN : (up ++ lo).length = N at *
    obtain ⟨⟨hs, tx⟩, ag, ⟨hO, wd⟩, st, rm, jn, al, k1, k2⟩ := sp
    have hT := ak_T_bd hs
    -- a frame off
    have FO : ∀ q k, ¬ (q = 69 ∧ (k = 7 ∨ k = 8)) → (ak_foC hc N (hc.1 69 8)).1 q k = hc.1 q k := fun q k h => (ak_up_out (by omega)).trans (ak_up_out (by omega))
    have FO7 : (ak_foC hc N (hc.1 69 8)).1 69 7 = (N : Int) := by unfold ak_foC; simp [am_up]
    have FO8 : (ak_foC hc N (hc.1 69 8)).1 69 8 = hc.1 69 8 - hc.1 76 N := by unfold ak_foC; simp [am_up]
    have FOJ : (ak_foC hc N (hc.1 69 8)).2 = hc.2 := rfl
    have g50 : ∀ (Q : ak_S → Prop) (X : Nat → ak_S → Prop), Q (ak_foC hc N (hc.1 69 8)) → ak_MV e 0 (d + 20) (ak_rc c.s ρ1 ρ2) 50 [am_r 69] hc Q X := fun Q X q => am_s50 h7 (by omega) r2 rfl (by omega) q
    generalize ak_foC hc N (hc.1 69 8) = hcF at FO FO7 FO8 FOJ g50
    have rmF : ak_RM c.s c.us g.O g.B c.Mt g.φ g.hr g.lv g.mt g.Us g.FR (ak_rms (f :: (up ++ lo))) c.h0 c.m0 hcF hmO := ak_RM_fr rm (fun q k a b => ⟨FO q k (by omega), by rw [FOJ]⟩) (fun _ _ _ => ⟨rfl, rfl⟩)
    obtain ⟨Us', FR', rmG, hUs⟩ := ak_RM_give (k := 0) rmF r3 (V' := ak_rms (up ++ lo)) (fun y => ⟨fun h => ⟨List.mem_cons_of_mem _ h, fun z => nd2.1 (by rw [← z]; exact h)⟩, fun h => (List.mem_cons.mp h.1).resolve_left h.2⟩)
    have hr5 : f.r < 560 := (rm.1.2.2.2.1 f.r).mp (List.mem_append_right _ r3)
    have hFR : g.FR.length < 560 := by
      have n1 := List.nodup_append.mp rm.1.2.2.1
      have := ak_sub_len (l := f.r :: g.FR) (l' := List.range 560) (List.nodup_cons.mpr ⟨fun h => n1.2.2 f.r h f.r r3 rfl, n1.1⟩) (fun y hy => List.mem_range.mpr (by
        rcases List.mem_cons.mp hy with rfl | hy
        · exact hr5
        · exact (rm.1.2.2.2.1 y).mp (List.mem_append_left _ hy)))
      rw [List.length_range, List.length_cons] at this
      omega
    have g142 : ∀ (Q : ak_S → Prop) (X : Nat → ak_S → Prop), Q (ak_gbC hcF g.FR.length f.r) → ak_MV e 0 (d + 20) (ak_rc c.s ρ1 ρ2) 142 [am_r 49, am_i (f.r : Int)] hcF Q X := fun Q X q => am_s142 rmF.1.1 hr5 hFR q
    have GB : ∀ q k, ¬ (q = 54 ∧ k = f.r) → q ≠ 60 → ¬ (q = 49 ∧ k = 11) → (ak_gbC hcF g.FR.length f.r).1 q k = hcF.1 q k := fun q k a b c => by
      unfold ak_gbC
      split
      · exact (ak_up_out c).trans ((ak_up_out (by omega)).trans (ak_up_out a))
      · exact ak_up_out a
    have GBJ : (ak_gbC hcF g.FR.length f.r).2 = hcF.2 := by
      unfold ak_gbC
      split <;> rfl
    generalize ak_gbC hcF g.FR.length f.r = hc1 at rmG g142 GB GBJ
    have ED : ∀ q k, ¬ ((q = 173 ∨ q = 175) ∧ k = g.φ f.r) → ¬ (q = 110 ∧ k = 103) → (ak_edM hmO 0 (g.φ f.r)).1 q k = hmO.1 q k := fun q k a b => (ak_up_out b).trans ((ak_up_out (by omega)).trans (ak_up_out (by omega)))
    have ED1 : (ak_edM hmO 0 (g.φ f.r)).1 175 (g.φ f.r) = 0 := by unfold ak_edM; simp [am_up]
    have ED2 : (ak_edM hmO 0 (g.φ f.r)).1 173 (g.φ f.r) = hmO.1 174 (g.φ f.r) := by unfold ak_edM; simp [am_up]
    have EDJ : (ak_edM hmO 0 (g.φ f.r)).2 = hmO.2 := rfl
    generalize ak_edM hmO 0 (g.φ f.r) = hm1 at rmG ED ED1 ED2 EDJ
    have C1 : ∀ q k, ¬ (q = 69 ∧ (k = 7 ∨ k = 8)) → ¬ (q = 54 ∧ k = f.r) → q ≠ 60 → ¬ (q = 49 ∧ k = 11) → hc1.1 q k = hc.1 q k := fun q k a b c d => (GB q k b c d).trans (FO q k a)
    have C1J : hc1.2 = hc.2 := GBJ.trans FOJ
    have sp1 : ak_SPP c ⟨g.S, g.O, g.B, g.T, g.sh, g.E, g.Et, g.G, g.φ, g.hr, g.lv, g.mt, Us', FR'⟩ (ak_rms (up ++ lo)) hc1 hm1 := by
      obtain ⟨wy, hwy⟩ := al.2.2.2.2.1
      refine ⟨⟨hs, tx⟩, ak_agT_fr ag (fun q k g3 g4 => ⟨C1 q k (by omega) (by omega) (by omega) (by omega), by rw [C1J]⟩) (fun q k g3 => ED q k (by unfold ak_tmI at g3; omega) (by unfold ak_tmI at g3; omega)), ⟨hO, ak_WD_fr wd ⟨fun q k h => C1 q k (by omega) (by omega) (by omega) (by omega), fun k => by rw [C1J]⟩ ⟨fun q k h => ED q k (by omega) (by omega), fun k => by rw [EDJ]⟩⟩,
        ak_ST_fr st (fun q k h => C1 q k (by omega) (by omega) (by omega) (by omega)) (fun k => by rw [C1J]) (fun q k h => ED q k (by omega) (by omega)), rmG, ak_jn_fr jn (fun q k a b => ⟨C1 q k (by omega) (by omega) (by omega) (by omega), by rw [C1J]⟩) (fun q k h => ⟨ED q k (by omega) (by omega), by rw [EDJ]⟩),
        ak_all_fr al (fun q k h => C1 q k (by omega) (by omega) (by omega) (by omega)) (fun k => by rw [C1J]) (fun q k h => ED q k (by omega) (by omega)) ⟨wy, ak_wyS_fr2 hwy (fun q k h => ED q k (by omega) (by omega))⟩, (C1 _ _ (by omega) (by omega) (by omega) (by omega)).trans k1, (ED _ _ (by omega) (by omega)).trans k2.1, (ED _ _ (by omega) (by omega)).trans k2.2⟩
    have n76 : ak_nH hc1 (up ++ lo) = ak_nH hc (up ++ lo) := ak_nH_fr (fun k _ => C1 76 k (by omega) (by omega) (by omega) (by omega))
    have n76l : ak_nH hc1 lo = ak_nH hc lo := ak_nH_fr (fun k _ => C1 76 k (by omega) (by omega) (by omega) (by omega))
    have h17 : hc1.1 69 7 = (N : Int) := (GB 69 7 (by omega) (by omega) (by omega)).trans FO7
    have h18 : hc1.1 69 8 = ak_nH hc1 (up ++ lo) := by
      rw [GB 69 8 (by omega) (by omega) (by omega), FO8, h8, n76]
      show ak_nH hc (up ++ lo) + hc.1 76 (up ++ lo).length - hc.1 76 N = _
      rw [hN]
      omega
    have hnf : f.r ∉ ak_rms up := fun h => nd2.1 (by unfold ak_rms at h ⊢; rw [List.map_append]; exact List.mem_append_left _ h)
    obtain ⟨g', hc', w1, w2, w3, w4, w5, ⟨e1, e2, e3, e4, e5, e6, e7⟩, w6⟩ := ih _ hc1 hm1 lo (x + 1) sp1 nd2.2 (fun p z q h => by
      have h3 := rw' (f :: p) z q (by rw [h]; rfl)
      refine ⟨(C1 70 _ (by omega) (by omega) (by omega) (by omega)).trans h3.1, ?_, hUs z.r h3.2.2 (fun hz => nd2.1 ?_)⟩
      · rw [C1 76 _ (by omega) (by omega) (by omega) (by omega)]; exact h3.2.1
      · rw [← hz, h]
        simp [ak_rms]) (by rw [hN]; exact h17) h18 (by omega) (by omega)
    refine ⟨g', hc', fun Q X q => ?_, w2, w3.trans n76l, fun q k a b c4 d4 => (w4 q k a (fun z => b ⟨z.1, List.mem_cons_of_mem _ z.2⟩) c4 d4).trans (C1 q k a (fun z => b ⟨z.1, by rw [z.2]; exact List.mem_cons_self⟩) c4 d4), w5.trans C1J, ⟨e1, e2, e3, e4, e5, e6, fun y hy hn => e7 y (hUs y hy (fun z => hn (by rw [z]; exact List.mem_cons_self))) (fun z => hn (List.mem_cons_of_mem _ z))⟩, fun hm a1 a2 a3 => ?_⟩
    · refine am_k104_2 hs ⟨fun z => absurd z (by omega), fun _ => ⟨fun z => absurd z (by rw [h7, ← hN, List.length_append]; omega), fun _ => g50 _ _ ?_⟩⟩
      rw [FO7, ak_natn, FO 70 N (by omega), show hc.1 70 N = (f.r : Int) from r1]
      refine ⟨by omega, g142 _ _ ?_⟩
      rw [show am_w32 ((x : Int) + 1) = ((x + 1 : Nat) : Int) from by rw [ak_w _ (by omega)]; omega]
      exact w1 Q X q
    · have b0 := a3 f.r (show f.r ∈ ak_rms (f :: up) from List.mem_cons_self)
      have φne : ∀ y, y ∈ ak_rms up → g.φ y ≠ g.φ f.r := fun y hy h => by
        have y1 : y ∈ ak_rms (up ++ lo) := by unfold ak_rms at hy ⊢; rw [List.map_append]; exact List.mem_append_left _ hy
        obtain ⟨z, hz, hzr⟩ := List.mem_map.mp y1
        obtain ⟨p, q, hpq⟩ := List.append_of_mem hz
        have := rm.1.2.2.2.2.2.1 y f.r (by
          have h3 := rw' (f :: p) z q (by rw [hpq]; rfl)
          rw [← hzr]; exact h3.2.2) r3 h
        exact hnf (by rw [← this]; exact hy)
      refine w6 hm (fun q k h1 h2 => ?_) (fun q k h1 => (a2 q k h1).trans (by rw [EDJ])) (fun y hy => ?_)
      · by_cases hk : (q = 173 ∨ q = 175) ∧ k = g.φ f.r
        · obtain ⟨hq, rfl⟩ := hk
          rcases hq with rfl | rfl
          · rw [b0.2, ED2]
          · rw [b0.1, ED1]
        · have h3 : ¬ (q = 110 ∧ k = 103) := fun z => h1.1 ⟨z.1, by omega⟩
          rw [ED q k hk h3]
          refine a1 q k h1 (fun ⟨z1, y, hy, z2⟩ => ?_)
          rcases List.mem_cons.mp (show y ∈ f.r :: ak_rms up from hy) with rfl | hy
          · exact hk ⟨z1, z2⟩
          · exact h2 ⟨z1, y, hy, z2⟩
      · have h3 := a3 y (List.mem_cons_of_mem _ hy)
        rw [ED 174 _ (by omega) (by omega)]
        exact h3
end CLS
