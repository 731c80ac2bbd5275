/-! the run, as a call -/
section RUN
variable {e : ak_X3} {d : Nat}
theorem ak_FRl {FR0 Us : List Nat} {φ : Nat → Nat} {hc hm : ak_S} (fre : ak_fre φ Us FR0 hc hm) (hF : 0 < FR0.length) : ∃ (rN : Nat) (FR : List Nat), FR0 = FR ++ [rN] ∧ FR.length < 560 ∧ rN < 560 ∧ hc.1 49 11 = ((FR.length + 1 : Nat) : Int) ∧ hc.1 60 FR.length = (rN : Int) := by
  obtain ⟨w1, w2, w3, w4, _⟩ := fre
  have n1 := List.nodup_append.mp w3
  obtain ⟨FR, rN, eFR⟩ : ∃ FR rN, FR0 = FR ++ [rN] := by
    rcases List.eq_nil_or_concat FR0 with h | ⟨l0, z, h⟩
    · rw [h] at hF; cases hF
    · exact ⟨l0, z, by rw [h]; simp⟩
  have hr5 : rN < 560 := (w4 rN).mp (List.mem_append_left _ (by rw [eFR]; simp))
  have hFR : FR0.length ≤ 560 := by
    have := ak_sub_len (l := FR0) (l' := List.range 560) n1.1 (fun y hy => List.mem_range.mpr ((w4 y).mp (List.mem_append_left _ hy)))
    rw [List.length_range] at this
    exact this
  have el : FR0.length = FR.length + 1 := by rw [eFR, List.length_append]; rfl
  exact ⟨rN, FR, eFR, by omega, hr5, w1.trans (by rw [el]), w2 _ _ (by rw [eFR]; simp)⟩
theorem ak_RUN_ok : ak_RUN e (d + 443) := by
  intro u us ρ1 ρ2 hc hm R x0 x1 x2 hu A L k1 k2 EM r g0 g1 g2
  have rr := ak_RR_of hu A L k1 k2 r
  have us2 := A.1
  have hus := A.2.1
  have A0 : ak_all us hc (ak_no hm 0) := ak_all_re A ak_kC_refl ak_kM_no (ak_wy_no A.2.2.2.2.1)
  have L0 : ak_LD u us hc (ak_no hm 0) := by
    obtain ⟨h0, m0, b, n, m, Mt, z, S, O, B, T, sh, E, Et, G, φ, hr, lv, mt, Us, FR0, tx, ag, ⟨hO, wd⟩, st, rm, jn⟩ := L
    exact ak_LD_re hu tx ag hO wd st rm jn ak_kC_refl ak_kM_no (ak_ly_no st.2.2.2.2.2)
  have N : ∀ q k, ¬ (q = 110 ∧ k = 0) → (ak_no hm 0).1 q k = hm.1 q k := fun q k a => ak_up_out1 a
  obtain ⟨h0, m0, b, n, m, Mt, z, S, O, B, T, sh, E, Et, G, φ, hr, lv, mt, Us, FR0, tx, ag, ⟨hO, wd⟩, st, rm, jn⟩ := L0
  have sp : ak_SPP (u, us, n, m, Mt, b, z, h0, m0) (S, O, B, T, sh, E, Et, G, φ, hr, lv, mt, Us, FR0) [] hc (ak_no hm 0) := ⟨⟨hu, tx⟩, ag, ⟨hO, wd⟩, st, rm, jn, A0, k1, (N 110 4 (by omega)).trans k2, ak_up_at1⟩
  obtain ⟨⟨a1, a2, a3, a4⟩, _⟩ := ak_tx_now tx ag
  have a2' : hm.1 122 us = (Mt : Int) := (N _ _ (by omega)).symm.trans a2
  have hT := ak_T_bd hu
  have e12 : ∀ i, i < Mt → hm.1 126 (40 * us + i) = hc.1 (ak_T u + 12) i := fun i hi => by
    obtain ⟨a, cc, _, _, q5, _⟩ := ak_tx_prg tx hi
    rw [← N 126 _ (by omega), ag.2 126 _ (by unfold ak_tmI; omega), (ag.1 (ak_T u + 12) i (by omega) (by omega)).1]
    exact q5
  have ref : (x0 < 0 ∨ (Mt : Int) ≤ x0 ∨ (0 ≤ x0 ∧ x0 < (Mt : Int) ∧ hm.1 126 (40 * us + x0.toNat) ≠ 2)) → ∃ cd : Int, ((1 : Nat), cd) ∈ [((0 : Nat), (1 : Int)), (1, 2)] ∧ ak_MI e 1 (d + 42) (ak_rc u ρ1 ρ2) 302 [am_r 110, am_i x0, am_l x1, am_l x2] hm (fun _ hm' => R (ak_th hc) hm' ∧ hm'.1 110 0 = cd) ak_F := fun hx => by
    refine ⟨2, by decide, ak_MI_of (Nat.le_of_ble_eq_true rfl) (am_k302_0 ⟨fun _ => ⟨fun _ => am_s198 (d := d + 40) ⟨rr.2 2, rfl⟩, fun y => ?_⟩, fun y => absurd y (by omega)⟩)⟩
    rw [hus, ak_natn, a2']
    refine ⟨by omega, fun _ => am_s198 (d := d + 40) ⟨rr.2 2, rfl⟩, fun y2 => ?_⟩
    obtain ⟨mth, rfl⟩ := Int.eq_ofNat_of_zero_le y
    rw [show am_w32 (am_w32 (40 * (us : Int)) + (mth : Int)) = ((40 * us + mth : Nat) : Int) from by
      rw [ak_w (40 * (us : Int)) (by omega), ak_w _ (by omega)]
      omega, ak_natn]
    refine ⟨by omega, fun y3 => ?_, fun _ => am_s198 (d := d + 40) ⟨rr.2 2, rfl⟩⟩
    rcases hx with h | h | ⟨_, _, h⟩
    · omega
    · omega
    · rw [ak_natn] at h
      exact absurd y3 h
  refine ak_cI_deep (show d + 42 ≤ d + 443 by omega) ?_
  refine ak_MI_of (Nat.le_of_ble_eq_true rfl) (am_k171_0 hu (am_s192 (d := d + 40) hu (fun _ => ⟨fun y => ref (Or.inl y), fun y => ?_⟩) (fun y => absurd y (by omega))))
  rw [a1]
  refine ⟨fun y2 => ref (Or.inr (Or.inl y2)), fun y2 => ⟨by omega, fun ar => ?_, fun ar => ref (Or.inr (Or.inr ⟨y, y2, fun z3 => ar ((e12 _ (by omega)).symm.trans z3)⟩))⟩⟩
  obtain ⟨mth, rfl⟩ := Int.eq_ofNat_of_zero_le y
  rw [ak_natn] at ar
  have hmt : mth < Mt := by omega
  obtain ⟨a, cc, q1, q4, q5, q6, q7⟩ := ak_tx_prg tx hmt
  have ex : ∃ f, f < 564 ∧ hm.1 173 f = 0 := by
    obtain ⟨f, f1, f2⟩ := ak_fre_M rm.1
    exact ⟨f, f1, (N _ _ (by omega)).symm.trans f2⟩
  obtain ⟨mS, f', hmF, pM, hf, hz, mm, goM⟩ := am_m302 (e := e) (d := d) (ρ := ak_rc u ρ1 ρ2) (x1 := x1) (x2 := x2) (hm := hm) (mth := mth) (N := Mt) k2 hus us2 a2' hmt (by omega) ((e12 mth hmt).trans ar) ex
  obtain ⟨rN, FR, eFR, f5, r5, h49, h60⟩ := ak_FRl rm.1 (ak_fre_C rm (by decide))
  refine am_c70 (d := d) (a := a) (n := FR.length) (r := rN) hu EM.1 EM.2 (by omega) (((ag.1 _ _ (by omega) (by omega)).1).trans q1) ⟨h49, f5, h60, r5⟩ (fun hX hcF pC mc => ?_)
  obtain ⟨RN, ⟨c1, c2, c3, c4⟩, e22⟩ := ak_RN_first sp EM hmt eFR hf ((N _ _ (by omega)).trans hz) pC pM mc mm g1 g2 q4 (q7 6160 (Nat.le_refl _))
  obtain ⟨n', hcE, hmE, o, FN, le, tC, tM, eE⟩ := ak_runs (e := e) (d := d) (ρ1 := ρ1) (ρ2 := ρ2) (ρ := ak_rc u ρ1 ρ2) 73209100 _ _ _ hcF hmF RN (by simp) (by
    unfold ak_Phi
    rw [c1]
    show 18300 * (4000 - 0) + (0 + (9100 - a) + 9101 * 0) ≤ 73209100
    omega) (Nat.le_refl _) (fun q s1 s2 => by
    rcases (show q = 109 ∨ q = 110 ∨ q = 111 by omega) with rfl | rfl | rfl
    · rw [c2]; decide
    · rw [c3]; decide
    · rw [c4]; decide)
  obtain ⟨g', hcF2, hmF2, c104, oE, oF, o0, e132, M139, spF, c22, em2⟩ := FN
  refine tC _ _ 0 (by omega) ?_
  refine am_k70_71 hu ⟨fun y => absurd y (by omega), fun _ => ⟨fun _ => c104 _ _ ⟨fun _ => ?_, fun y => absurd y (by omega)⟩, fun y => absurd y (by omega)⟩⟩
  rw [oF]
  obtain ⟨⟨_, tx2⟩, ag2, wd2, st2, rm2, jn2, al2, e18, e4, e0⟩ := spF
  have eH : hcF2.2.2 = hc.2.2 := c22.trans (eE.trans e22)
  have fin : R hcF2 hmF2 := r hcF2 hmF2 (by rw [eH]; omega) (by rw [eH]; omega) al2 ⟨h0, m0, b, n, m, Mt, z, g'.S, g'.O, g'.B, g'.T, g'.sh, g'.E, g'.Et, g'.G, g'.φ, g'.hr, g'.lv, g'.mt, g'.Us, g'.FR, tx2, ag2, wd2, st2, rm2, jn2⟩ e18 e4 (fun _ => em2)
  obtain ⟨M1, M2⟩ := M139 (fun b hm' => R hcF2 hm' ∧ hm'.1 110 0 = 0 ∧ o = b) ak_F ⟨fin, e0, rfl⟩
  exact goM hmE _ tM e132 M1 M2
end RUN
