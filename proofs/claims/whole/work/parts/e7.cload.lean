/-! the call load -/
section FR3
variable {S O NS us : Nat} {T : Nat → List (Int × Int)} {sh : Nat → Nat} {hc hm hc' hm' : ak_S} {E : Nat → List ak_E} {Et : List ak_E} {G : List (Int × Int × Int × Int)}
theorem ak_ST_fr3 (w : ak_ST S O NS us T sh E Et G hc hm) (f : ∀ q k, (q = 44 ∧ k ≠ 7 ∧ k ≠ 8) ∨ q = 45 ∨ q = 47 ∨ q = 48 → hc'.1 q k = hc.1 q k) (g : ∀ k, hc'.2.1 46 k = hc.2.1 46 k) (m : ∀ q k, (q = 110 ∧ (k = 3 ∨ k = 64 ∨ k = 67 ∨ k = 71 ∨ k = 78 ∨ k = 84)) ∨ q = 154 ∨ (157 ≤ q ∧ q ≤ 172) → hm'.1 q k = hm.1 q k) (m127 : hm'.1 127 us = hm.1 127 us) (m129 : ∀ i, i < 150 → hm'.1 129 (150 * us + i) = hm.1 129 (150 * us + i)) : ak_ST S O NS us T sh E Et G hc' hm' := by
  obtain ⟨⟨u1, u2, u3, u4⟩, si, ⟨t1, t3, t4, t5, t6⟩, ⟨g1, g2, g3⟩, ⟨m1, m2, m3⟩, ly⟩ := w
  refine ⟨⟨(m _ _ (by omega)).trans u1, u2, m127.trans u3, u4⟩, fun i hi => ?_, ⟨t1, ak_gC_fr t3 (fun k _ _ => f 45 k (by omega)) (fun k _ _ => g k), ak_gM_fr t4 (fun q k _ _ _ _ => m q k (by omega)), (f _ _ (by omega)).trans t5, (m _ _ (by omega)).trans t6⟩, ⟨ak_gnC_fr g1 (fun q k hq => f q k (by omega)), ak_gnM_fr g2 (fun q k hq => m q k (by omega)), g3⟩, ⟨?_, ?_⟩, ak_ly_fr ly (fun q k hq => m q k (by omega))⟩
  · obtain ⟨a, ⟨b1, b2, b3, b4⟩, ⟨x1, x2⟩, x3, x4, x5, x6, x7⟩ := si i hi
    refine ⟨a, ⟨ak_gC_fr b1 (fun k _ _ => f 45 k (by omega)) (fun k _ _ => g k), ak_gM_fr b2 (fun q k _ _ _ _ => m q k (by omega)), (f _ _ (by omega)).trans b3, (m _ _ (by omega)).trans b4⟩, ⟨?_, ?_⟩, ?_, ?_, ?_, ?_, ⟨fun en he => (x7.1 en he).trans (m129 i hi).symm, ?_⟩⟩
    · rw [f 47 _ (by omega), m 162 i (by omega)]; exact x1
    · rw [m 162 i (by omega)]; exact x2
    · rw [f 47 _ (by omega), m 158 i (by omega)]; exact x3
    · rw [f 47 _ (by omega), m 160 i (by omega)]; exact x4
    · rw [f 47 _ (by omega), m 161 i (by omega)]; exact x5
    · rw [f 47 _ (by omega), m 163 i (by omega)]; exact x6
    · rw [m 158 i (by omega)]; exact x7.2
  · rw [f 44 6 (by omega), m 110 71 (by omega)]; exact m1
  · rw [m 110 71 (by omega)]; exact ⟨m2, m3⟩
end FR3
section CLD
variable {e : ak_X3} {d s c r2 us : Nat} {hc hm : ak_S} {R : List Nat → ak_S → ak_S → Prop}
def ak_old (s us : Nat) (hc hm : ak_S) : Prop := (hc.1 1 8 = 0 ∧ hm.1 110 4 = 0) ∨ (hc.1 1 8 = 1 ∧ hm.1 110 4 = 1 ∧ ak_LD s us hc hm)
/-- what a text that is refused leaves -/
theorem ak_old_bad {p : Nat} {hc1 hm1 h hm' : ak_S} (hs : (s = 0 ∧ c = 1) ∨ (s = 1 ∧ c = 0)) (hp : p + us = 1) (A : ak_all us hc hm) (O : ak_old s us hc hm) (fF : ak_fF c hc hc1) (fL : ak_fL p hm hm1) (z2 : hm1.1 110 2 = 0) (wr : ak_WR c p hc1 hm1 h hm') :
    ak_all us (am_up h.1 3 1 0, h.2) hm' ∧ ak_old s us (am_up h.1 3 1 0, h.2) hm' ∧ (ak_em hc → ak_em (am_up h.1 3 1 0, h.2)) := by
  obtain ⟨wr1, wr2, ⟨pc1, pc2⟩, ⟨pm1, pm2⟩, wr5, wr6, wr7, wr8⟩ := wr
  have hT : (ak_T s = 9 ∧ ak_T c = 87) ∨ (ak_T s = 87 ∧ ak_T c = 9) := by unfold ak_T; omega
  have cF : ∀ q k, ¬ (q = 3 ∧ (k = 1 ∨ (6 ≤ k ∧ k ≤ 9))) → ¬ (q = 2 ∨ q = 6 ∨ q = 7 ∨ q = 31) → ¬ (ak_T c ≤ q ∧ q ≤ ak_T c + 20) → ((am_up h.1 3 1 0, h.2) : ak_S).1 q k = hc.1 q k := fun q k a b g => (show am_up h.1 3 1 0 q k = h.1 q k from ak_up_out (by omega)).trans ((pc1 q k (by unfold ak_pcI; omega)).trans (fF.1 q k (by unfold ak_pcF ak_pcI; omega)))
  have cJ : ∀ q k, ¬ (q = 3 ∧ k = 10) → ¬ (q = 8 ∨ q = 30) → ¬ (ak_T c ≤ q ∧ q ≤ ak_T c + 20) → h.2.1 q k = hc.2.1 q k := fun q k a b g => (pc2 q k (by unfold ak_pcJ; omega)).trans (fF.2.1 q k (by unfold ak_pcG ak_pcJ; omega))
  have mF : ∀ q k, ¬ ak_pL p q k → hm'.1 q k = hm.1 q k := fun q k a => (pm1 q k (fun g => a (Or.inl g))).trans (fL.1 q k a)
  have mJ : ∀ q k, hm'.2.1 q k = hm.2.1 q k := fun q k => by rw [pm2, fL.2]
  have us2 := A.1
  refine ⟨?_, ?_, fun z => ⟨(cF 69 7 (by omega) (by omega) (by omega)).trans z.1, (cF 69 8 (by omega) (by omega) (by omega)).trans z.2⟩⟩
  · obtain ⟨w1, w2, ⟨n, t1, t2, t3, t4⟩, w4, ⟨w, w5⟩, w6, w7⟩ := A
    refine ⟨w1, (mF _ _ (by unfold ak_pL ak_pmI; omega)).trans w2, ⟨0, by decide, ?_, ?_, fun k hk => absurd hk (Nat.not_lt_zero _)⟩, ?_, ⟨w, ak_wyS_fr2 w5 (fun q k g => mF q k (by unfold ak_pL ak_pmI; omega))⟩, fun k hk => (mF _ _ (by unfold ak_pL ak_pmI; omega)).trans (w6 k hk), fun k hk => (cJ _ _ (by omega) (by omega) (by omega)).trans (w7 k hk)⟩
    · show am_up h.1 3 1 0 3 1 = _
      exact ak_up_at
    · exact (pm1 110 2 (by unfold ak_pmI; omega)).trans z2
    · rw [cF 44 6 (by omega) (by omega) (by omega), mF 110 71 (by unfold ak_pL ak_pmI; omega)]
      exact w4
  · rcases O with ⟨o1, o2⟩ | ⟨o1, o2, L⟩
    · exact Or.inl ⟨(cF _ _ (by omega) (by omega) (by omega)).trans o1, (mF _ _ (by unfold ak_pL ak_pmI; omega)).trans o2⟩
    · refine Or.inr ⟨(cF _ _ (by omega) (by omega) (by omega)).trans o1, (mF _ _ (by unfold ak_pL ak_pmI; omega)).trans o2, ?_⟩
      obtain ⟨h0, m0, b, n, m, Mt, z, S, O, B, T, sh, E, Et, G, φ, hr, lv, mt, Us, FR, tx, ag, ⟨hO, wd⟩, st, rm, jn⟩ := L
      refine ⟨h0, m0, b, n, m, Mt, z, S, O, B, T, sh, E, Et, G, φ, hr, lv, mt, Us, FR, tx, ak_agT_fr ag (fun q k g1 g2 => ⟨cF q k (by omega) (by omega) (by omega), cJ q k (by omega) (by omega) (by omega)⟩) (fun q k g => mF q k (by unfold ak_tmI at g; unfold ak_pL ak_pmI; omega)), ⟨hO, ?_⟩, ?_, ?_, ?_⟩
      · exact ak_WD_fr wd ⟨fun q k g => cF q k (by omega) (by omega) (by omega), fun k => cJ 36 k (by omega) (by omega) (by omega)⟩ ⟨fun q k g => mF q k (by unfold ak_pL ak_pmI; omega), fun k => mJ 146 k⟩
      · have hNS := st.1
        obtain ⟨⟨u1, u2, u3, u4⟩, si, rest⟩ := st
        have st2 : ak_ST S O (z 7) us T sh E Et G hc hm := ⟨⟨u1, u2, u3, u4⟩, si, rest⟩
        have tn := ak_tx_now tx ag
        have e129 : ∀ i, i < 150 → hm'.1 129 (150 * us + i) = hm.1 129 (150 * us + i) := fun i hi => mF _ _ (by unfold ak_pL ak_pmI; omega)
        exact ak_ST_fr3 st2 (fun q k g => cF q k (by omega) (by omega) (by omega)) (fun k => cJ 46 k (by omega) (by omega) (by omega)) (fun q k g => mF q k (by unfold ak_pL ak_pmI; omega)) (mF _ _ (by unfold ak_pL ak_pmI; omega)) e129
      · exact ak_RM_fr rm (fun q k g1 g2 => ⟨cF q k (by omega) (by omega) (by omega), cJ q k (by omega) (by omega) (by omega)⟩) (fun q k g => ⟨mF q k (by unfold ak_pL ak_pmI; omega), mJ q k⟩)
      · exact ak_jn_fr jn (fun q k g1 g2 => ⟨cF q k (by omega) (by omega) (by omega), cJ q k (by omega) (by omega) (by omega)⟩) (fun q k g => ⟨mF q k (by unfold ak_pL ak_pmI; omega), mJ q k⟩)
theorem am_load (hs : (s = 0 ∧ c = 1) ∨ (s = 1 ∧ c = 0)) (A : ak_all us hc hm) (O : ak_old s us hc hm)
    (rok : ∀ (p : Nat) (hc' hm' : ak_S), hc'.2.2.1 ≤ hc.2.2.1 → hc'.2.2.2 ≤ hc.2.2.2 → ak_all p hc' hm' → hc'.1 1 8 = 1 → hm'.1 110 4 = 1 → ak_LD c p hc' hm' → (ak_em hc → ak_em hc') → R [ak_T c, ak_T s, ak_T c + 1, ak_T c, ak_T c + 1] hc' hm')
    (rbad : ∀ hc' hm' : ak_S, hc'.2.2.1 ≤ hc.2.2.1 + 1 → hc'.2.2.2 ≤ hc.2.2.2 + 6 → ak_all us hc' hm' → ak_old s us hc' hm' → (ak_em hc → ak_em hc') → R [ak_T s, ak_T c, ak_T c + 1, ak_T s, ak_T s + 1] hc' hm') :
    ak_cL e (d + 443) [ak_T s, ak_T c, r2, ak_T s, ak_T s + 1] hc hm R := by
  have us2 := A.1
  obtain ⟨p, hp⟩ : ∃ p, p + us = 1 := ⟨1 - us, by omega⟩
  have hw : s = 0 ∨ s = 1 := by omega
  have hu : c = 0 ∨ c = 1 := by omega
  have hT : (ak_T s = 9 ∧ ak_T c = 87) ∨ (ak_T s = 87 ∧ ak_T c = 9) := by unfold ak_T; omega
  obtain ⟨n, t1, t2, t3, t4⟩ := A.2.2.1
  have g : ∀ ρ2, ak_M1 e 0 (d + 442) [ak_T s, ak_T c, r2, ak_T s, ak_T s + 1] 9 [am_r 2] hc (fun ρ' x => ρ' = [ak_T s, ak_T c, ak_T c + 1, ak_T s, ak_T s + 1] ∧ ((∃ h, ak_TR e d ρ2 c p n hc hm h ∧ x = .inl (some (.inl 1), h)) ∨ (∃ h, ak_TW e d ρ2 c p hc hm h ∧ x = .inl (some (.inl 0), h)))) := fun ρ2 =>
    am_s9 hu (lk_trans hu t2 t1 (fun k hk => (t4 k hk).1) A.2.2.2.2.2.2 A.2.1 hp t3 (fun k hk => (t4 k hk).2) A.2.2.2.2.2.1)
  have gg := ak_M1_two (g [ak_T c, ak_T s, ak_T c + 1, ak_T c, ak_T c + 1]) (g [ak_T s, ak_T c, ak_T c + 1, ak_T s, ak_T s + 1])
  refine am_t168 hw hu gg (fun h B => ?_) (fun h K => ?_)
  · obtain ⟨hc1, hm1, hm', fF, fL, z0, z2, wr, go⟩ := B
    obtain ⟨fa, fo, fe⟩ := ak_old_bad hs hp A O fF fL z2 wr
    refine ⟨_, _, rfl, ?_⟩
    refine ak_MI_deep (show d + 441 ≤ d + 443 by omega) (go _ _ (am_k237_169 (am_s206 (fun g => absurd g (by have := wr.1; omega)) (fun _ => ⟨fun g => absurd g (by decide), fun _ => ⟨rbad _ _ ?_ ?_ fa fo fe, ?_⟩⟩))))
    · show h.2.2.1 ≤ _
      rw [wr.2.2.2.2.2.2.1]
      show hc1.2.2.1 + 1 ≤ _
      rw [fF.2.2]; omega
    · show h.2.2.2 ≤ _
      rw [wr.2.2.2.2.2.2.1]
      show hc1.2.2.2 + 6 ≤ _
      rw [fF.2.2]; omega
    · rw [wr.2.1]
  · obtain ⟨hc1, hm1, m, Mt, z, hm', fF, fL, z0, z2, fm, PM, M1, pot, prg, go⟩ := K
    have tx : ak_tx c p n m Mt (hc.1 4) z h hm' := ⟨PM, M1, pot, prg⟩
    have cF : ∀ q k, ¬ (q = 3 ∧ (6 ≤ k ∧ k ≤ 9)) → ¬ (q = 2 ∨ q = 6 ∨ q = 7 ∨ q = 31) → ¬ (ak_T c ≤ q ∧ q ≤ ak_T c + 20) → h.1 q k = hc.1 q k := fun q k a b g => (fm.1.1 q k (by unfold ak_pcI; omega)).trans (fF.1 q k (by unfold ak_pcF ak_pcI; omega))
    have cJ : ∀ q k, ¬ (q = 3 ∧ k = 10) → ¬ (q = 8 ∨ q = 30) → ¬ (ak_T c ≤ q ∧ q ≤ ak_T c + 20) → h.2.1 q k = hc.2.1 q k := fun q k a b g => (fm.1.2 q k (by unfold ak_pcJ; omega)).trans (fF.2.1 q k (by unfold ak_pcG ak_pcJ; omega))
    have mF : ∀ q k, ¬ ak_pL p q k → hm'.1 q k = hm.1 q k := fun q k a => (fm.2.1.1 q k (fun g => a (Or.inl g))).trans (fL.1 q k a)
    have hmn : h.1 44 6 = hm'.1 110 71 ∧ 0 ≤ hm'.1 110 71 ∧ hm'.1 110 71 ≤ 2 := by
      rw [cF 44 6 (by omega) (by omega) (by omega), mF 110 71 (by unfold ak_pL ak_pmI; omega)]
      exact A.2.2.2.1
    have hwy : ∃ w, ak_wyS hm' w := by
      obtain ⟨w, w5⟩ := A.2.2.2.2.1
      exact ⟨w, ak_wyS_fr2 w5 (fun q k g => mF q k (by unfold ak_pL ak_pmI; omega))⟩
    have p31 : hm'.1 110 31 = (p : Int) := PM.2.1.1.1
    have f37 := PM.2.2.1
    have cnt : h.2.2 = hc.2.2 := fm.2.2.1.trans fF.2.2
    have mths := PM.2.2.2.2.2.2.1
    refine ak_MV_imp (am_ldC (d := d + 438) (Q := fun h4 => ak_ldC (am_up h.1 3 1 0, h.2) h4) (fun h4 l => l)) (fun h1 q1 => ak_MV_imp q1 (fun h2 q2 => ak_MV_imp q2 (fun h3' q3 => ak_MV_imp q3 (fun h4 lc => ?_) (fun _ _ q => q)) (fun _ _ q => q)) (fun _ _ q => q)) (fun _ _ q => q)
    refine ⟨_, _, rfl, ?_⟩
    refine ak_MI_deep (show d + 441 ≤ d + 443 by omega) (go _ _ (am_k237_169 (am_s206 (fun _ => ⟨fun _ => ⟨Or.inr rfl, ?_⟩, fun g => absurd rfl g⟩) (fun g => absurd g (by omega)))))
    refine ak_MV_deep (show d + 2 ≤ d + 440 by omega) (am_s263 (fun h3 lm => ?_))
    have hLD := ak_LD_new hu (by omega) tx hmn hwy lc lm
    have lmF := lm.2.2.2.2.1
    have lcF := lc.2.2.2.2.1
    have u3 : h3.1 110 3 = (p : Int) := by
      rw [lmF 110 3 (by omega) (by omega)]
      show am_up (am_up hm'.1 110 3 (hm'.1 110 31)) 110 4 1 110 3 = _
      rw [ak_up_out (by omega), ak_up_at]
      exact p31
    have u4 : h3.1 110 4 = 1 := by
      rw [lmF 110 4 (by omega) (by omega)]
      show am_up (am_up hm'.1 110 3 (hm'.1 110 31)) 110 4 1 110 4 = 1
      exact ak_up_at
    have m3 : ∀ q k, ¬ (q = 110 ∧ (k = 3 ∨ k = 4 ∨ k = 46 ∨ k = 53 ∨ k = 57 ∨ k = 67 ∨ k = 78 ∨ k = 84 ∨ k = 104 ∨ k = 106 ∨ (108 ≤ k ∧ k ≤ 111))) → ¬ (q = 141 ∨ q = 142 ∨ q = 147 ∨ (158 ≤ q ∧ q ≤ 163) ∨ (173 ≤ q ∧ q ≤ 175) ∨ q = 186) → h3.1 q k = hm'.1 q k := fun q k g1 g2 => (lmF q k (by omega) g2).trans ((ak_up_out (by omega)).trans (ak_up_out (by omega)))
    have c4 : ∀ q k, ¬ (q = 1 ∧ k = 8) → ((am_up h4.1 1 8 1, h4.2) : ak_S).1 q k = h4.1 q k := fun q k g => ak_up_out g
    have e69 : ∀ k, ((am_up h4.1 1 8 1, h4.2) : ak_S).1 69 k = hc.1 69 k := fun k => by
      rw [c4 69 k (by omega), lcF 69 k (by omega) (by omega) (by omega) (by omega)]
      show am_up h.1 3 1 0 69 k = _
      rw [ak_up_out (by omega)]
      exact cF 69 k (by omega) (by omega) (by omega)
    rw [u3, ak_natn]
    refine ⟨by omega, rok p _ _ ?_ ?_ ?_ (show am_up h4.1 1 8 1 1 8 = 1 from ak_up_at) u4 hLD (fun z => ⟨(e69 7).trans z.1, (e69 8).trans z.2⟩), ?_⟩
    · show h4.2.2.1 ≤ _
      rw [lc.2.2.2.2.2.2]
      show h.2.2.1 ≤ _
      rw [cnt]; exact Nat.le_refl _
    · show h4.2.2.2 ≤ _
      rw [lc.2.2.2.2.2.2]
      show h.2.2.2 ≤ _
      rw [cnt]; exact Nat.le_refl _
    · obtain ⟨w, w5⟩ := hwy
      refine ⟨by omega, u3, ⟨0, by decide, ?_, ?_, fun k hk => absurd hk (Nat.not_lt_zero _)⟩, ?_, ⟨w, ak_wyS_fr2 w5 (fun q k g => m3 q k (by omega) (by omega))⟩, fun k hk => ?_, fun k hk => ?_⟩
      · rw [c4 3 1 (by omega), lcF 3 1 (by omega) (by omega) (by omega) (by omega)]
        show am_up h.1 3 1 0 3 1 = _
        exact ak_up_at
      · rw [m3 110 2 (by omega) (by omega), fm.2.1.1 110 2 (by unfold ak_pmI; omega)]
        exact z2
      · rw [c4 44 6 (by omega), lcF 44 6 (by omega) (by omega) (by omega) (by omega), m3 110 71 (by omega) (by omega)]
        exact hmn
      · rw [m3 137 k (by omega) (by omega), mF 137 k (by unfold ak_pL ak_pmI; omega)]
        exact A.2.2.2.2.2.1 k hk
      · show h4.2.1 5 k = _
        rw [lc.2.2.2.2.2.1 5 k (by omega)]
        show h.2.1 5 k = _
        rw [cJ 5 k (by omega) (by omega) (by omega)]
        exact A.2.2.2.2.2.2 k hk
    · rw [m3 122 p (by omega) (by omega), mths.2.2.1]
      show am_up h4.1 1 8 1 (ak_T c) 4 = _
      rw [ak_up_out (by omega), lcF (ak_T c) 4 (by omega) (by omega) (by omega) (by omega)]
      show am_up h.1 3 1 0 (ak_T c) 4 = _
      rw [ak_up_out (by omega)]
      exact mths.2.1
end CLD
