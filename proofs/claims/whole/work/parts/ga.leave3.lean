/-! the run: it fails; a frame's end gives a value -/
section LVE
variable {e : ak_X3} {d ρ1 ρ2 P : Nat} {ρ : List Nat} {c : ak_Cx} {g g' : ak_Gh} {up lo : List ak_Fr} {cur f : ak_Fr} {hmO hc hm hc' hm' : ak_S} {j : ak_Jb} {r js : List ak_Jb} {aw : List Bool}
theorem ak_rs_snoc : ak_rms ((up ++ [cur]) ++ lo) = ak_rms (up ++ cur :: lo) ∧ (up ++ [cur]) ++ lo = up ++ cur :: lo := by
  have : (up ++ [cur]) ++ lo = up ++ cur :: lo := by simp
  exact ⟨by rw [this], this⟩
/-- nothing takes the failure -/
theorem ak_lv_fend (w : ak_UI c g up cur [] [] P hmO hc hm) (hx : hc.1 77 10 = 1) : ak_LR e d ρ1 ρ2 ρ c P hc hm := by
  obtain ⟨hs, l60, cU, φ5, φy, h174, h174O, inU, nc, _, e133⟩ := ak_UI_at w
  have h133 : hm.1 110 133 = 1 := e133.trans hx
  have go : ∀ (Q : ak_S → Prop) (X : Nat → ak_S → Prop), Q (am_up (ak_leM hm 0 0 (g.φ cur.r) 0 (-1)).1 110 105 1, (ak_leM hm 0 0 (g.φ cur.r) 0 (-1)).2) → ak_W0 e 1 (d + 20) 276 ρ 2 [some (am_r 110), some (am_i 1), none] [] hm (ak_qv Q X) := fun Q X q => by
    refine ak_m276e w (by decide) (fun _ => ?_) (fun z => absurd z.1 (by rw [h133]; decide))
    show ak_W0 e 1 (d + 20) 276 ρ 2 [some (am_r 110), some (am_i 1), none] [] (ak_leM hm 0 0 (g.φ cur.r) 0 (-1)) (ak_qv Q X)
    obtain ⟨i1, i2, i3, i4, _⟩ := ak_leM_in (h := hm) (n := 0) (k := 0) (f' := g.φ cur.r) (t := 0) (x := -1)
    refine am_k276_2 ⟨fun z => absurd z (by decide), fun _ => ⟨fun _ => am_k276_225 ⟨fun z => absurd z (by decide), fun _ => ⟨fun z => absurd ?_ z, fun _ => q⟩⟩, fun z => absurd z (by rw [i4]; decide)⟩⟩
    rw [ak_leM_out (by omega) (by omega)]
    exact h133
  obtain ⟨⟨sp, nd, rw', h7, h8, hl⟩, ⟨u2, u3, u4, u5⟩, ⟨m1, m2, m3, m4, m5⟩, ⟨s1, s2, s3⟩, _, _, pb⟩ := w
  obtain ⟨eR, eL⟩ := ak_rs_snoc (up := up) (cur := cur) (lo := [])
  -- the one notes what it fails by
  have nu : hc.1 77 14 = hm.1 110 138 := by
    rcases u5.2 with z | ⟨_, _, _, _, z, _⟩ | ⟨z, _⟩
    · exact absurd z u4
    · exact z
    · rw [hx] at z; exact absurd z (by decide)
  have spE : ak_SPP c g (ak_rms ((up ++ [cur]) ++ [])) (am_up (am_up hc.1 32 11 1) 77 10 0, am_up hc.2.1 64 3 (hc.1 77 14), hc.2.2) (am_up hmO.1 110 108 (hm.1 110 138), hmO.2) := by
    rw [eR]
    have J := sp.2.2.2.2.2.1
    refine ak_SP_re sp (ak_jn_a J ?_ ?_ ?_ (fun q k a b c => ⟨(ak_up_out (by omega)).trans (ak_up_out (by omega)), ak_up_out (by omega)⟩) (fun q k a => ⟨ak_up_out (by omega), rfl⟩)) (fun q k a b => ⟨(ak_up_out (by unfold ak_stC at a; omega)).trans (ak_up_out (by unfold ak_stC at a; omega)), ak_up_out (by omega)⟩) (fun q k a b c => ⟨ak_up_out (by omega), rfl⟩)
    · show am_up hc.2.1 64 3 (hc.1 77 14) 64 0 = am_up hmO.1 110 108 (hm.1 110 138) 110 106
      rw [ak_up_out (by omega), ak_up_out (by omega)]; exact J.1.1
    · show am_up hc.2.1 64 3 (hc.1 77 14) 64 1 = hmO.2.1 110 107
      rw [ak_up_out (by omega)]; exact J.1.2.1
    · show am_up hc.2.1 64 3 (hc.1 77 14) 64 3 = am_up hmO.1 110 108 (hm.1 110 138) 110 108
      rw [ak_up_at, ak_up_at]; exact nu
  have EO : ∀ q k, ¬ (q = 32 ∧ k = 11) → ¬ (q = 77 ∧ k = 10) → ((am_up (am_up hc.1 32 11 1) 77 10 0, am_up hc.2.1 64 3 (hc.1 77 14), hc.2.2) : ak_S).1 q k = hc.1 q k := fun q k a b => (ak_up_out b).trans (ak_up_out a)
  have E11 : ((am_up (am_up hc.1 32 11 1) 77 10 0, am_up hc.2.1 64 3 (hc.1 77 14), hc.2.2) : ak_S).1 32 11 = 1 := by simp [am_up]
  have E77 : ((am_up (am_up hc.1 32 11 1) 77 10 0, am_up hc.2.1 64 3 (hc.1 77 14), hc.2.2) : ak_S).1 77 10 = 0 := ak_up_at1
  have goC : ∀ (x : Nat) (Q : ak_S → Prop) (X : Nat → ak_S → Prop), (x : Int) + hc.1 77 4 ≤ 1260 → Q (am_up (am_up hc.1 32 11 1) 77 10 0, am_up hc.2.1 64 3 (hc.1 77 14), hc.2.2) → ak_W0 e 0 (d + 39) 100 (ak_rc c.s ρ1 ρ2) 2 [some (am_r 32), some (am_i (x : Int)), none] [] hc (ak_qv Q X) := by
    intro x Q X hx2 q
    have g0 : hc.1 77 4 = 0 := u2
    refine am_k100_2 hs ⟨fun z => absurd z (by omega), fun _ => ⟨fun z => absurd z u4, fun _ => ⟨fun _ => am_k100_49 hs ⟨fun _ => ?_, fun z => absurd z (by omega)⟩, fun z => absurd z (by omega)⟩⟩⟩
    refine ak_MV_of (Nat.le_of_ble_eq_true rfl) (am_k103_0 hs ⟨fun z => absurd hx z, fun _ => ⟨by decide, ?_⟩⟩)
    refine am_k100_2 hs ⟨fun _ => q, fun _ => ⟨fun _ => q, fun z => absurd E77 z⟩⟩
  have hc2 : ((am_up (am_up hc.1 32 11 1) 77 10 0, am_up hc.2.1 64 3 (hc.1 77 14), hc.2.2) : ak_S).2.2 = hc.2.2 := rfl
  generalize ((am_up (am_up hc.1 32 11 1) 77 10 0, am_up hc.2.1 64 3 (hc.1 77 14), hc.2.2) : ak_S) = hcE at spE EO E11 E77 goC hc2
  obtain ⟨g', hcF, w1, w2, w3, w4, w5, _, w6⟩ := ak_close (e := e) (d := d + 19) (ρ1 := ρ1) (ρ2 := ρ2) (up ++ [cur]) g hcE _ [] 0 spE (by rw [eR]; exact nd) (fun p z q h => by
    rw [eL] at h
    rw [EO _ _ (by omega) (by omega), EO _ _ (by omega) (by omega)]
    exact rw' p z q h) (by rw [eL, EO _ _ (by omega) (by omega)]; exact h7) (by
    rw [eL, EO _ _ (by omega) (by omega), h8]
    exact (ak_nH_fr (fun k _ => EO 76 k (by omega) (by omega))).symm) (by rw [eL]; exact hl) (by
    have : (up ++ [cur]).length = (up ++ cur :: ([] : List ak_Fr)).length := rfl
    rw [this]; omega)
  obtain ⟨i1, i2, i3, i4, i5, i6⟩ := ak_leM_in (h := hm) (n := 0) (k := 0) (f' := g.φ cur.r) (t := 0) (x := -1)
  have O := fun q i a b => ak_leM_out (h := hm) (n := 0) (k := 0) (f' := g.φ cur.r) (q := q) (i := i) (t := 0) (x := -1) a b
  have OJ : (ak_leM hm 0 0 (g.φ cur.r) 0 (-1)).2 = hm.2 := rfl
  generalize ak_leM hm 0 0 (g.φ cur.r) 0 (-1) = hmL at go i1 i2 i3 i4 i5 i6 O OJ
  have eRy : ∀ y, y ∈ ak_rms (up ++ [cur]) ↔ y ∈ ak_rms up ∨ y = cur.r := fun y => by simp [ak_rms]
  have spF : ak_SPP c g' [] hcF (am_up (am_up hmL.1 110 105 1) 110 108 (hm.1 110 138), hmL.2) := by
    refine w6 _ (fun q k h h2 => ?_) (fun q k h => ?_) (fun y hy => ?_)
    · show am_up (am_up hmL.1 110 105 1) 110 108 (hm.1 110 138) q k = am_up hmO.1 110 108 (hm.1 110 138) q k
      have h4 : ¬ ((q = 173 ∨ q = 175) ∧ k = g.φ cur.r) := fun z => h2 ⟨z.1, cur.r, (eRy _).mpr (Or.inr rfl), z.2⟩
      have h5 : ¬ (q = 110 ∧ (k = 102 ∨ k = 103 ∨ k = 127 ∨ k = 132)) := fun z => h.1 ⟨z.1, by omega⟩
      have h6 : ¬ (q = 110 ∧ k = 105) := fun z => h.1 ⟨z.1, by omega⟩
      refine ak_up_cg ((ak_up_out h6).trans ((O q k h5 h4).trans (s1 q k h (fun ⟨z1, y, z2, z3⟩ => h2 ⟨z1, y, (eRy _).mpr (Or.inl z2), z3⟩))))
    · show hmL.2.1 q k = hmO.2.1 q k
      rw [OJ]; exact s2 q k h
    · show am_up (am_up hmL.1 110 105 1) 110 108 (hm.1 110 138) 175 (g.φ y) = 0 ∧ am_up (am_up hmL.1 110 105 1) 110 108 (hm.1 110 138) 173 (g.φ y) = am_up hmO.1 110 108 (hm.1 110 138) 174 (g.φ y)
      rw [ak_up_out (by omega), ak_up_out (by omega), ak_up_out (by omega), ak_up_out (by omega), ak_up_out (by omega)]
      rcases (eRy y).mp hy with hy | rfl
      · have n := (φy y hy).2
        rw [O 175 _ (by omega) (fun z => n z.2), O 173 _ (by omega) (fun z => n z.2)]
        exact s3 y hy
      · exact ⟨i5, i6.trans h174O.symm⟩
  refine ⟨hcE, _, goC, go, hc2, Or.inr ⟨1, g', hcF, _, fun Q X q => ak_MV_of (Nat.le_of_ble_eq_true rfl) (am_k104_0 hs (w1 Q X q)), E11, ?_, by decide, Or.inr ?_, fun Q X q => ⟨fun _ => ?_, fun z => absurd z ?_⟩, spF, by rw [w5], ⟨w2, w3⟩⟩⟩
  · rw [w4 32 11 (by omega) (by omega) (by omega) (by omega)]; exact E11
  · show 0 ≤ am_up hmL.1 110 105 1 110 105
    rw [ak_up_at]; decide
  · refine am_k302_139 ⟨fun _ => ⟨fun z => absurd ak_up_at1 z, fun _ => ?_⟩, fun z => absurd z ?_⟩
    · have e138 : am_up hmL.1 110 105 1 110 138 = hm.1 110 138 := (ak_up_out (by omega)).trans (O _ _ (by omega) (by omega))
      show ak_W0 e 1 (d + 41) 302 ρ 188 [some (am_r 110), none, none, none, none, none, none, some (am_i 0)] [] (am_up (am_up hmL.1 110 105 1) 110 108 (am_up hmL.1 110 105 1 110 138), hmL.2) (ak_qi Q X)
      rw [e138]
      refine ak_rest0 spF Q X ?_
      have : am_up (am_up hmL.1 110 105 1) 110 108 (hm.1 110 138) 110 105 = 1 := (ak_up_out (by omega)).trans ak_up_at
      show Q (am_up (am_up hmL.1 110 105 1) 110 108 (hm.1 110 138) 110 105) _
      rw [this]
      exact q
    · show ¬ (am_up hmL.1 110 105 1 110 105 = 0)
      rw [ak_up_at]; decide
  · show ¬ (am_up hmL.1 110 105 1 110 105 < 0)
    rw [ak_up_at]; decide
end LVE
