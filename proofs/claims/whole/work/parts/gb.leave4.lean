/-! the run: a frame's end gives a value -/
section LVX
variable {e : ak_X3} {d ρ1 ρ2 P : Nat} {ρ : List Nat} {c : ak_Cx} {g g' : ak_Gh} {up lo : List ak_Fr} {cur f : ak_Fr} {hmO hc hm hc' hm' : ak_S} {j : ak_Jb} {r js : List ak_Jb} {aw : List Bool}
theorem ak_exit {hmF : ak_S} (w : ak_UI c g up cur [] lo P hmO hc hm) (hx : hm.1 110 133 = 2 ∧ hm.1 110 134 = (g.φ cur.r : Int)) (HF : ∀ q k, ¬ (q = 110 ∧ (k = 102 ∨ k = 103 ∨ k = 127 ∨ (132 ≤ k ∧ k ≤ 138))) → ¬ ((q = 173 ∨ q = 175) ∧ k = g.φ cur.r) → ¬ (q = 199 ∧ k = ak_nT lo) → hmF.1 q k = hm.1 q k) (HFJ : ∀ q k, ¬ (q = 200 ∧ k = ak_nT lo) → ¬ (q = 110 ∧ k = 136) → hmF.2.1 q k = hm.2.1 q k)
    (i1 : hmF.1 110 102 = ak_fx g lo) (i2 : hmF.1 110 103 = (lo.length : Int)) (P127 : hmF.1 110 127 = ((ak_nT lo + 1 : Nat) : Int)) (i4 : hmF.1 110 132 = (ak_nJ lo : Int)) (i5 : hmF.1 175 (g.φ cur.r) = 0) (i6 : hmF.1 173 (g.φ cur.r) = hm.1 174 (g.φ cur.r)) (P199' : hmF.1 199 (ak_nT lo) = hm.1 110 135 ∧ hmF.2.1 200 (ak_nT lo) = hm.2.1 110 136) :
    ∃ hc' : ak_S, (∀ (x : Nat) (Q : ak_S → Prop) (X : Nat → ak_S → Prop), (x : Int) + hc.1 77 4 ≤ 1260 → Q hc' → ak_W0 e 0 (d + 39) 100 (ak_rc c.s ρ1 ρ2) 2 [some (am_r 32), some (am_i (x : Int)), none] [] hc (ak_qv Q X)) ∧ hc'.2.2 = hc.2.2 ∧
      ((∃ g' fs', ak_RN c g' fs' hc' hmF ∧ fs' ≠ [] ∧ ak_pcs fs' + 1 ≤ P ∧ ak_sm hm hmF) ∨ ∃ o, ak_FN e d ρ1 ρ2 ρ c o hc' hmF) := by
  obtain ⟨hs, l60, cU, φ5, φy, h174, h174O, inU, nc, _, e133⟩ := ak_UI_at w
  have hg2 : hc.1 77 10 = 2 := e133.symm.trans hx.1
  have wg := w
  obtain ⟨⟨sp, nd, rw', h7, h8, hl⟩, ⟨u2, u3, u4, u5⟩, ⟨m1, m2, m3, m4, m5⟩, ⟨s1, s2, s3⟩, ⟨f0, _⟩, lo1, pb⟩ := w
  obtain ⟨eR, eL⟩ := ak_rs_snoc (up := up) (cur := cur) (lo := lo)
  have hV := ak_nV_le lo1
  have spO := sp
  -- the frame that ends
  obtain ⟨s, es⟩ : ∃ s, s = hc.1 77 12 := ⟨_, rfl⟩
  obtain ⟨x, ex⟩ : ∃ x, x = hc.2.1 77 13 := ⟨_, rfl⟩
  have hw : s = hm.1 110 135 ∧ x = hm.2.1 110 136 ∧ ak_vok g.O g.B s x ∧ hc.1 77 14 = (lo.length : Int) := by
    rw [es, ex]
    rcases u5.2 with z | z | ⟨_, z2, z3, z4, p, r', q, z5, z6, z7⟩
    · exact absurd z u4
    · rw [hg2] at z; exact absurd z.1 (by decide)
    · refine ⟨z2, z3, z4, ?_⟩
      have r'U : r' ∈ g.Us := inU r' (by
        have e1 : ak_rms (up ++ cur :: lo) = ak_rms up ++ cur.r :: ak_rms lo := by simp [ak_rms]
        rw [e1, z5]; simp)
      have e2 : r' = cur.r := sp.2.2.2.2.1.1.2.2.2.2.2.1 r' cur.r r'U cU (by
        have := z7.symm.trans hx.2
        omega)
      have nd2 : (cur.r :: ak_rms lo).Nodup := by
        have e1 : ak_rms (up ++ cur :: lo) = ak_rms up ++ cur.r :: ak_rms lo := by simp [ak_rms]
        rw [e1] at nd
        exact (List.nodup_append.mp nd).2.1
      cases p with
      | nil =>
        have := (List.cons.inj z5).2
        rw [z6, ← this]
        simp [ak_rms]
      | cons p0 p =>
        have h1 := (List.cons.inj z5).2
        exact absurd (show cur.r ∈ ak_rms lo by rw [h1, ← e2]; simp) (List.nodup_cons.mp nd2).1
  obtain ⟨hw1, hw2, hw3, hw4⟩ := hw
  have P199 : hmF.1 199 (ak_nT lo) = s ∧ hmF.2.1 200 (ak_nT lo) = x := by rw [hw1, hw2]; exact P199'
  have eRy : ∀ y, y ∈ ak_rms (up ++ [cur]) ↔ y ∈ ak_rms up ∨ y = cur.r := fun y => by simp [ak_rms]
  -- the one closes
  have spA : ak_SPP c g (ak_rms ((up ++ [cur]) ++ lo)) (am_up hc.1 32 10 (ak_nV lo : Int), hc.2) hmO := by
    rw [eR]
    exact ak_SP_fr sp (fun q k h => ⟨ak_up_out (by unfold ak_stC at h; omega), rfl⟩) (fun _ _ _ => ⟨rfl, rfl⟩)
  have AO : ∀ q k, ¬ (q = 32 ∧ k = 10) → ((am_up hc.1 32 10 (ak_nV lo : Int), hc.2) : ak_S).1 q k = hc.1 q k := fun q k a => ak_up_out a
  have A10 : ((am_up hc.1 32 10 (ak_nV lo : Int), hc.2) : ak_S).1 32 10 = (ak_nV lo : Int) := ak_up_at1
  have AJ : ((am_up hc.1 32 10 (ak_nV lo : Int), hc.2) : ak_S).2 = hc.2 := rfl
  have go0 : ∀ (x' : Nat) (Q : ak_S → Prop) (X : Nat → ak_S → Prop), (x' : Int) + hc.1 77 4 ≤ 1260 → ak_MV e 0 (d + 38) (ak_rc c.s ρ1 ρ2) 104 [am_r 32, am_i (lo.length : Int)] (am_up hc.1 32 10 (ak_nV lo : Int), hc.2) (fun h1 =>
      (h1.1 77 14 ≠ 0 → ak_MV e 0 (d + 38) (ak_rc c.s ρ1 ρ2) 73 [am_r 32, am_i (h1.1 77 12), am_l (h1.2.1 77 13)] h1 (fun h2 => Q ((am_up h2.1 77 10 0), h2.2)) (fun _ _ => False)) ∧
      (h1.1 77 14 = 0 → ak_MV e 0 (d + 38) (ak_rc c.s ρ1 ρ2) 64 [am_r 63, am_i (h1.1 77 12), am_l (h1.2.1 77 13)] ((am_up h1.1 32 11 0), h1.2) (fun h3 => Q ((am_up h3.1 77 10 0), h3.2)) (fun _ _ => False))) (fun _ _ => False) →
      ak_W0 e 0 (d + 39) 100 (ak_rc c.s ρ1 ρ2) 2 [some (am_r 32), some (am_i (x' : Int)), none] [] hc (ak_qv Q X) := by
    intro x' Q X hx2 q
    have e75 : hc.1 75 lo.length = (ak_nG lo : Int) := f0.1.2.2.2.2.2.1
    have e74 : hc.1 74 lo.length = (ak_nV lo : Int) := f0.1.2.2.2.2.1
    have g0 : hc.1 77 4 = (ak_nG lo : Int) := u2
    refine am_k100_2 hs ⟨fun z => absurd z (by omega), fun _ => ⟨fun z => absurd z u4, fun _ => ⟨fun z => absurd hg2 z, fun _ => ⟨by omega, ?_⟩⟩⟩⟩
    rw [hw4, ak_natn, e75]
    refine am_k100_49 hs ⟨fun _ => ak_MV_of (Nat.le_of_ble_eq_true rfl) (am_k103_0 hs ⟨fun _ => ⟨by omega, ?_⟩, fun z => absurd z (by omega)⟩), fun z => absurd z (by omega)⟩
    rw [hw4, ak_natn, e74]
    have fin : ∀ h2 : ak_S, Q ((am_up h2.1 77 10 0), h2.2) → ak_W0 e 0 (d + 39) 100 (ak_rc c.s ρ1 ρ2) 2 [some (am_r 32), some (am_i (am_w32 ((x' : Int) + 1))), none] [] ((am_up h2.1 77 10 0), h2.2) (ak_qv Q X) := fun h2 q2 => am_k100_2 hs ⟨fun _ => q2, fun _ => ⟨fun _ => q2, fun z => absurd ak_up_at1 z⟩⟩
    exact ak_MV_imp q (fun h1 ⟨k1, k2⟩ => ⟨fun z => ak_MV_imp (k1 z) (fun h2 q2 => fin h2 q2) (fun _ _ z => z), fun z => ak_MV_imp (k2 z) (fun h2 q2 => fin h2 q2) (fun _ _ z => z)⟩) (fun _ _ z => z)
  generalize ((am_up hc.1 32 10 (ak_nV lo : Int), hc.2) : ak_S) = hcA at spA AO A10 AJ go0
  obtain ⟨g', hc1, w1, w2, w3, w4, w5, ⟨e1, e2, e3, e4, e5, e6, e7⟩, w6⟩ := ak_close (e := e) (d := d + 17) (ρ1 := ρ1) (ρ2 := ρ2) (up ++ [cur]) g hcA hmO lo 0 spA (by rw [eR]; exact nd) (fun p z q h => by
    rw [eL] at h
    rw [AO _ _ (by omega), AO _ _ (by omega)]
    exact rw' p z q h) (by rw [eL, AO _ _ (by omega)]; exact h7) (by
    rw [eL, AO _ _ (by omega), h8]
    exact (ak_nH_fr (fun k _ => AO 76 k (by omega))).symm) (by rw [eL]; exact hl) (by
    rw [List.length_append, List.length_cons] at hl
    rw [List.length_append]
    show up.length + 1 + 0 ≤ 60
    omega)
  have C1 : ∀ q k, ¬ (q = 69 ∧ (k = 7 ∨ k = 8)) → ¬ (q = 54 ∧ k ∈ ak_rms (up ++ [cur])) → q ≠ 60 → ¬ (q = 49 ∧ k = 11) → ¬ (q = 32 ∧ k = 10) → hc1.1 q k = hc.1 q k := fun q k a b c' d' e' => (w4 q k a b c' d').trans (AO q k e')
  have C1J : hc1.2 = hc.2 := w5.trans AJ
  have c14 : hc1.1 77 14 = (lo.length : Int) := (C1 _ _ (by omega) (by omega) (by omega) (by omega) (by omega)).trans hw4
  have sp1 : ak_SPP c g' (ak_rms lo) hc1 hmF := by
    refine w6 hmF (fun q k h h2 => ?_) (fun q k h => ?_) (fun y hy => ?_)
    · have h4 : ¬ ((q = 173 ∨ q = 175) ∧ k = g.φ cur.r) := fun z => h2 ⟨z.1, cur.r, (eRy _).mpr (Or.inr rfl), z.2⟩
      have h5 : ¬ (q = 110 ∧ (k = 102 ∨ k = 103 ∨ k = 127 ∨ (132 ≤ k ∧ k ≤ 138))) := fun z => h.1 ⟨z.1, by omega⟩
      exact (HF q k h5 h4 (fun z => h.2.2.2 (by omega))).trans (s1 q k h (fun ⟨z1, y, z2, z3⟩ => h2 ⟨z1, y, (eRy _).mpr (Or.inl z2), z3⟩))
    · exact (HFJ q k (fun z => h.2.2.2 (by omega)) (fun z => h.1 ⟨z.1, by omega⟩)).trans (s2 q k h)
    · rcases (eRy y).mp hy with hy | rfl
      · have n := (φy y hy).2
        rw [HF 175 _ (by omega) (fun z => n z.2) (by omega), HF 173 _ (by omega) (fun z => n z.2) (by omega)]
        exact s3 y hy
      · exact ⟨i5, i6.trans h174O.symm⟩
  have cT : hc1.1 77 12 = s ∧ hc1.2.1 77 13 = x := ⟨by rw [es]; exact C1 _ _ (by omega) (by omega) (by omega) (by omega) (by omega), by rw [ex, C1J]⟩
  have c10 : hc1.1 32 10 = (ak_nV lo : Int) := (w4 32 10 (by omega) (by omega) (by omega) (by omega)).trans A10
  have go104 : ∀ (Q : ak_S → Prop) (X : Nat → ak_S → Prop), Q hc1 → ak_MV e 0 (d + 38) (ak_rc c.s ρ1 ρ2) 104 [am_r 32, am_i (lo.length : Int)] hcA Q X := fun Q X q => ak_MV_of (Nat.le_of_ble_eq_true rfl) (am_k104_0 hs (w1 Q X q))
  have eJn : ak_sm hm hmF := fun q hq => HF _ _ (by omega) (by omega) (by omega)
  cases lo with
  | nil =>
    -- the run answers
    have goE : ∀ (Q : ak_S → Prop) (X : Nat → ak_S → Prop), Q (am_up (am_up hc1.1 32 11 0) 77 10 0, am_up (am_up hc1.2.1 64 0 s) 64 1 x, hc1.2.2) → ak_MV e 0 (d + 38) (ak_rc c.s ρ1 ρ2) 104 [am_r 32, am_i (([] : List ak_Fr).length : Int)] hcA (fun h1 =>
        (h1.1 77 14 ≠ 0 → ak_MV e 0 (d + 38) (ak_rc c.s ρ1 ρ2) 73 [am_r 32, am_i (h1.1 77 12), am_l (h1.2.1 77 13)] h1 (fun h2 => Q ((am_up h2.1 77 10 0), h2.2)) (fun _ _ => False)) ∧
        (h1.1 77 14 = 0 → ak_MV e 0 (d + 38) (ak_rc c.s ρ1 ρ2) 64 [am_r 63, am_i (h1.1 77 12), am_l (h1.2.1 77 13)] ((am_up h1.1 32 11 0), h1.2) (fun h3 => Q ((am_up h3.1 77 10 0), h3.2)) (fun _ _ => False))) X := fun Q X q => by
      refine go104 _ X ⟨fun z => absurd c14 z, fun _ => ?_⟩
      rw [cT.1, cT.2]
      exact ak_MV_of (Nat.le_of_ble_eq_true rfl) (am_k64_0 ⟨by decide, by decide, q⟩)
    have EO : ∀ q k, ¬ (q = 32 ∧ k = 11) → ¬ (q = 77 ∧ k = 10) → ((am_up (am_up hc1.1 32 11 0) 77 10 0, am_up (am_up hc1.2.1 64 0 s) 64 1 x, hc1.2.2) : ak_S).1 q k = hc1.1 q k := fun q k a b => (ak_up_out b).trans (ak_up_out a)
    have EOJ : ∀ q k, ¬ (q = 64 ∧ (k = 0 ∨ k = 1)) → ((am_up (am_up hc1.1 32 11 0) 77 10 0, am_up (am_up hc1.2.1 64 0 s) 64 1 x, hc1.2.2) : ak_S).2.1 q k = hc1.2.1 q k := fun q k a => (ak_up_out (by omega)).trans (ak_up_out (by omega))
    have E11 : ((am_up (am_up hc1.1 32 11 0) 77 10 0, am_up (am_up hc1.2.1 64 0 s) 64 1 x, hc1.2.2) : ak_S).1 32 11 = 0 := by simp [am_up]
    have E0 : ((am_up (am_up hc1.1 32 11 0) 77 10 0, am_up (am_up hc1.2.1 64 0 s) 64 1 x, hc1.2.2) : ak_S).2.1 64 0 = s := by simp [am_up]
    have E1 : ((am_up (am_up hc1.1 32 11 0) 77 10 0, am_up (am_up hc1.2.1 64 0 s) 64 1 x, hc1.2.2) : ak_S).2.1 64 1 = x := by simp [am_up]
    have E2 : ((am_up (am_up hc1.1 32 11 0) 77 10 0, am_up (am_up hc1.2.1 64 0 s) 64 1 x, hc1.2.2) : ak_S).2.2 = hc.2.2 := by
      show hc1.2.2 = _
      rw [C1J]
    generalize ((am_up (am_up hc1.1 32 11 0) 77 10 0, am_up (am_up hc1.2.1 64 0 s) 64 1 x, hc1.2.2) : ak_S) = hcE at goE EO EOJ E11 E0 E1 E2
    have spF : ak_SPP c g' [] hcE (am_up (am_up hmF.1 110 105 0) 110 106 s, am_up hmF.2.1 110 107 x, hmF.2.2) := by
      have J := sp1.2.2.2.2.2.1
      refine ak_SP_re sp1 (ak_jn_a J ?_ ?_ ?_ (fun q k a b c => ⟨EO _ _ (by omega) (by omega), EOJ _ _ (by omega)⟩) (fun q k a => ⟨(ak_up_out (by omega)).trans (ak_up_out (by omega)), ak_up_out (by omega)⟩)) (fun q k a b => ⟨EO q k (by unfold ak_stC at a; omega) (by unfold ak_stC at a; omega), EOJ q k (by omega)⟩) (fun q k a b c => ⟨(ak_up_out (by omega)).trans (ak_up_out (by unfold ak_stM at a; omega)), ak_up_out (by omega)⟩)
      · exact E0.trans ak_up_at1.symm
      · exact E1.trans (show am_up hmF.2.1 110 107 x 110 107 = x from ak_up_at).symm
      · rw [EOJ _ _ (by omega)]
        exact J.1.2.2.2.1.trans (show am_up (am_up hmF.1 110 105 0) 110 106 s 110 108 = hmF.1 110 108 from (ak_up_out (by omega)).trans (ak_up_out (by omega))).symm
    refine ⟨hcE, fun x' Q X h q => go0 x' Q X h (goE Q _ q), E2, Or.inr ⟨0, g', hcE, _, fun Q X q => ak_MV_of (Nat.le_of_ble_eq_true rfl) (am_k104_0 hs (am_k104_2 hs ⟨fun _ => q, fun _ => ⟨fun _ => q, fun z => absurd z ?_⟩⟩)), E11, E11, by decide, Or.inl ?_, fun Q X q => ⟨fun z => absurd z ?_, fun _ => ?_⟩, spF, rfl, ⟨(EO _ _ (by omega) (by omega)).trans w2, (EO _ _ (by omega) (by omega)).trans w3⟩⟩⟩
    · rw [EO _ _ (by omega) (by omega), w2]; decide
    · rw [i4]; decide
    · rw [HF _ _ (by omega) (by omega) (by omega), m4]; decide
    · refine am_k302_139 ⟨fun z => absurd ak_up_at1 z, fun _ => ⟨by decide, by decide, ?_⟩⟩
      have a1 : ((am_up hmF.1 110 105 0, hmF.2) : ak_S).1 199 0 = s := (ak_up_out1 (by omega)).trans P199.1
      have a2 : ((am_up hmF.1 110 105 0, hmF.2) : ak_S).2.1 200 0 = x := P199.2
      rw [a1, a2]
      refine ak_rest0 spF Q X ?_
      have : ((am_up (am_up hmF.1 110 105 0) 110 106 s, am_up hmF.2.1 110 107 x, hmF.2.2) : ak_S).1 110 105 = 0 := by simp [am_up]
      rw [this]
      exact q
  | cons f lo =>
    have nV : ak_nV (f :: lo) = ak_nV lo + f.vs.length := rfl
    have nT : ak_nT (f :: lo) = ak_nT lo + ak_tc f.vs := rfl
    have nL : ((f :: lo).length : Int) ≠ 0 := by rw [List.length_cons]; omega
    have goE : ∀ (Q : ak_S → Prop) (X : Nat → ak_S → Prop), Q (am_up (ak_psC hc1 (ak_nV (f :: lo)) s x).1 77 10 0, (ak_psC hc1 (ak_nV (f :: lo)) s x).2) → ak_MV e 0 (d + 38) (ak_rc c.s ρ1 ρ2) 104 [am_r 32, am_i ((f :: lo).length : Int)] hcA (fun h1 =>
        (h1.1 77 14 ≠ 0 → ak_MV e 0 (d + 38) (ak_rc c.s ρ1 ρ2) 73 [am_r 32, am_i (h1.1 77 12), am_l (h1.2.1 77 13)] h1 (fun h2 => Q ((am_up h2.1 77 10 0), h2.2)) (fun _ _ => False)) ∧
        (h1.1 77 14 = 0 → ak_MV e 0 (d + 38) (ak_rc c.s ρ1 ρ2) 64 [am_r 63, am_i (h1.1 77 12), am_l (h1.2.1 77 13)] ((am_up h1.1 32 11 0), h1.2) (fun h3 => Q ((am_up h3.1 77 10 0), h3.2)) (fun _ _ => False))) X := fun Q X q => by
      refine go104 _ X ⟨fun _ => ?_, fun z => absurd (c14.symm.trans z) nL⟩
      rw [cT.1, cT.2]
      exact am_s73 (d := d + 37) hs c10 (by omega) q
    have EO : ∀ q k, ¬ (q = 32 ∧ k = 10) → ¬ (q = 77 ∧ k = 10) → ¬ (q = 108 ∧ k = ak_nV (f :: lo)) → ((am_up (ak_psC hc1 (ak_nV (f :: lo)) s x).1 77 10 0, (ak_psC hc1 (ak_nV (f :: lo)) s x).2) : ak_S).1 q k = hc1.1 q k := fun q k a b c => (ak_up_out1 b).trans (ak_psC_o c a)
    have EOJ : ∀ q k, ¬ (q = 109 ∧ k = ak_nV (f :: lo)) → ((am_up (ak_psC hc1 (ak_nV (f :: lo)) s x).1 77 10 0, (ak_psC hc1 (ak_nV (f :: lo)) s x).2) : ak_S).2.1 q k = hc.2.1 q k := fun q k a => (ak_psC_J (s := s) a).trans (by rw [C1J])
    have E10 : ((am_up (ak_psC hc1 (ak_nV (f :: lo)) s x).1 77 10 0, (ak_psC hc1 (ak_nV (f :: lo)) s x).2) : ak_S).1 32 10 = ((ak_nV (f :: lo) + 1 : Nat) : Int) := by unfold ak_psC; simp [am_up]
    have E77 : ((am_up (ak_psC hc1 (ak_nV (f :: lo)) s x).1 77 10 0, (ak_psC hc1 (ak_nV (f :: lo)) s x).2) : ak_S).1 77 10 = 0 := ak_up_at1
    have E108 : ((am_up (ak_psC hc1 (ak_nV (f :: lo)) s x).1 77 10 0, (ak_psC hc1 (ak_nV (f :: lo)) s x).2) : ak_S).1 108 (ak_nV (f :: lo)) = s := by unfold ak_psC; simp [am_up]
    have E109 : ((am_up (ak_psC hc1 (ak_nV (f :: lo)) s x).1 77 10 0, (ak_psC hc1 (ak_nV (f :: lo)) s x).2) : ak_S).2.1 109 (ak_nV (f :: lo)) = x := by unfold ak_psC; simp [am_up]
    have E2 : ((am_up (ak_psC hc1 (ak_nV (f :: lo)) s x).1 77 10 0, (ak_psC hc1 (ak_nV (f :: lo)) s x).2) : ak_S).2.2 = hc.2.2 := by
      show hc1.2.2 = _
      rw [C1J]
    generalize ((am_up (ak_psC hc1 (ak_nV (f :: lo)) s x).1 77 10 0, (ak_psC hc1 (ak_nV (f :: lo)) s x).2) : ak_S) = hcE at goE EO EOJ E10 E77 E108 E109 E2
    have ndl : ∀ y, y ∈ ak_rms (f :: lo) → y ∉ ak_rms (up ++ [cur]) := fun y hy h => by
      rw [← eR] at nd
      have e1 : ak_rms ((up ++ [cur]) ++ f :: lo) = ak_rms (up ++ [cur]) ++ ak_rms (f :: lo) := by simp [ak_rms]
      rw [e1] at nd
      exact (List.nodup_append.mp nd).2.2 y h y hy rfl
    have EC : ∀ q k, ¬ (q = 69 ∧ (k = 7 ∨ k = 8)) → ¬ (q = 54 ∧ k ∈ ak_rms (up ++ [cur])) → q ≠ 60 → ¬ (q = 49 ∧ k = 11) → ¬ (q = 32 ∧ k = 10) → ¬ (q = 77 ∧ k = 10) → ¬ (q = 108 ∧ k = ak_nV (f :: lo)) → hcE.1 q k = hc.1 q k := fun q k a b c' d' e' f' g' => (EO q k e' f' g').trans (C1 q k a b c' d' e')
    have EM : ∀ q k, q ≠ 110 → ¬ (q = 173 ∨ q = 175) → ¬ (q = 199 ∧ k = ak_nT (f :: lo)) → hmF.1 q k = hm.1 q k := fun q k a b c' => HF q k (fun z => a z.1) (fun z => b z.1) c'
    have EMJ : ∀ q k, q ≠ 110 → ¬ (q = 200 ∧ k = ak_nT (f :: lo)) → hmF.2.1 q k = hm.2.1 q k := fun q k a b => HFJ q k b (fun z => a z.1)
    have inl : ∀ y, y ∈ ak_rms (f :: lo) → y ∈ g.Us := fun y hy => ((ak_LO_row lo1).2.2.1 y hy).1
    have gl : ak_gle g g' (ak_rms (f :: lo)) := ⟨by rw [e1]; exact Nat.le_refl _, by rw [e2]; exact Nat.le_refl _, fun y hy => ⟨e7 y (inl y hy) (ndl y hy), by rw [e3], by rw [e4], by rw [e5], by rw [e6]⟩⟩
    have lo2 := ak_LO_kp (g' := g') (hc' := hcE) (hm' := hmF) gl lo1 (fun q k h => EC q k (by omega) (by omega) (by omega) (by omega) (by omega) (by omega) (by omega)) (fun q k h => EOJ q k (by omega)) (fun y hy => ⟨EC 54 y (by omega) (fun z => ndl y hy z.2) (by omega) (by omega) (by omega) (by omega) (by omega), EC 56 _ (by omega) (by omega) (by omega) (by omega) (by omega) (by omega) (by omega), EOJ 57 _ (by omega)⟩) (fun q k h => EM q k (by omega) (by omega) (by omega)) (fun q k h => EMJ q k (by omega) (by omega))
    obtain ⟨wf, lo3⟩ := lo2
    have wf' := wf
    obtain ⟨⟨_, _, _, wpc, _⟩, _, wJ, wV, wK, wL1, wL2, wL3⟩ := wf'
    have F := ak_F0_F1 (aw := []) (vs := (true, s, x) :: f.vs) (ak_F1_F0 wf) wpc wJ ⟨⟨by rw [← nV]; exact E108, by rw [← nV]; exact E109, by rw [e1, e2]; exact hw3⟩, fun _ => ⟨by rw [← nT]; exact P199.1, by rw [← nT]; exact P199.2⟩, fun z => absurd z (by simp), wV⟩ wK ⟨wL1, by
      rw [List.length_cons, List.length_nil]
      have : ([true] : List Bool).length = 1 := rfl
      omega, wL3⟩
    refine ⟨hcE, fun x' Q X h q => go0 x' Q X h (goE Q _ q), E2, Or.inl ⟨g', ⟨f.r, f.pc, f.js, (true, s, x) :: f.vs⟩ :: lo, ⟨ak_SP_fr sp1 (fun q k h => ⟨EO q k (by unfold ak_stC at h; omega) (by unfold ak_stC at h; omega) (by unfold ak_stC at h; omega), ?_⟩) (fun _ _ _ => ⟨rfl, rfl⟩), ⟨⟨?_, ?_, ?_, ?_, ?_⟩, ⟨?_, ?_, ?_, ?_, ?_⟩, F, lo3⟩, ?_, E77, ?_⟩, by simp, ?_, eJn⟩⟩
    · rw [EOJ q k (by unfold ak_stC at h; omega), C1J]
    · rw [List.length_append, List.length_cons] at hl; show (f :: lo).length ≤ 60; omega
    · exact (EO _ _ (by omega) (by omega) (by omega)).trans w2
    · rw [EO _ _ (by omega) (by omega) (by omega), w3]
      have a1 : ak_nH hcA (f :: lo) = ak_nH hc (f :: lo) := ak_nH_fr (fun k _ => AO 76 k (by omega))
      have a2 : ak_nH hcE (⟨f.r, f.pc, f.js, (true, s, x) :: f.vs⟩ :: lo) = ak_nH hc (f :: lo) := ak_nH_fr (fs := f :: lo) (fun k _ => EC 76 k (by omega) (by omega) (by omega) (by omega) (by omega) (by omega) (by omega))
      rw [a2]
      first | exact a1 | exact (ak_nH_fr (fun k _ => rfl))
    · rw [EC 77 4 (by omega) (by omega) (by omega) (by omega) (by omega) (by omega) (by omega), u2]; rfl
    · rw [E10]
      show ((ak_nV (f :: lo) + 1 : Nat) : Int) = ((ak_nV lo + (f.vs.length + 1) : Nat) : Int)
      rw [nV]; congr 1
    · rw [i1]
      show ((g.φ f.r : Nat) : Int) = ((g'.φ f.r : Nat) : Int)
      rw [e3]
    · rw [i2]; rfl
    · rw [P127]
      show ((ak_nT (f :: lo) + 1 : Nat) : Int) = ((ak_nT lo + (ak_tc f.vs + 1) : Nat) : Int)
      rw [nT]; congr 1
    · rw [i4]; rfl
    · rw [HF _ _ (by omega) (by omega) (by omega), m3]; rfl
    · rw [EC 32 11 (by omega) (by omega) (by omega) (by omega) (by omega) (by omega) (by omega)]; exact u3
    · rw [HF _ _ (by omega) (by omega) (by omega)]; exact m4
    · have : ak_gw ([] : List ak_Jb) = 0 := rfl
      show ak_pcs lo + (9100 - f.pc) + 9101 * ak_gw f.js + 1 ≤ P
      have : ak_pcs (f :: lo) = ak_pcs lo + (9100 - f.pc) + 9101 * ak_gw f.js := rfl
      omega
theorem ak_lv_exit (w : ak_UI c g up cur [] lo P hmO hc hm) (hx : hm.1 110 133 = 2 ∧ hm.1 110 134 = (g.φ cur.r : Int)) : ak_LR e d ρ1 ρ2 ρ c P hc hm := by
  have hV := ak_nV_le w.2.2.2.2.2.1
  have l60 := (ak_UI_at w).2.1
  obtain ⟨i1, i2, i3, i4, i5, i6⟩ := ak_leM_in (h := hm) (n := ak_nJ lo) (k := lo.length) (f' := g.φ cur.r) (t := (ak_nT lo : Int)) (x := ak_fx g lo)
  have O := fun q i a b => ak_leM_out (h := hm) (n := ak_nJ lo) (k := lo.length) (f' := g.φ cur.r) (q := q) (i := i) (t := (ak_nT lo : Int)) (x := ak_fx g lo) a b
  have OJ : (ak_leM hm (ak_nJ lo) lo.length (g.φ cur.r) (ak_nT lo : Int) (ak_fx g lo)).2 = hm.2 := rfl
  have goM : ∀ (Q : ak_S → Prop) (X : Nat → ak_S → Prop), Q (ak_psM (ak_leM hm (ak_nJ lo) lo.length (g.φ cur.r) (ak_nT lo : Int) (ak_fx g lo)) (ak_nT lo) (hm.1 110 135) (hm.2.1 110 136)) → ak_W0 e 1 (d + 20) 276 ρ 2 [some (am_r 110), some (am_i 1), none] [] hm (ak_qv Q X) := fun Q X q => by
    refine ak_m276e w (by decide) (fun z => absurd hx z) (fun _ => ?_)
    exact am_s265 (d := d + 19) i3 (by omega) (am_k276_2 ⟨fun _ => am_k276_225 ⟨fun _ => q, fun z => absurd rfl z⟩, fun z => absurd rfl z⟩)
  generalize ak_leM hm (ak_nJ lo) lo.length (g.φ cur.r) (ak_nT lo : Int) (ak_fx g lo) = hmL at goM i1 i2 i3 i4 i5 i6 O OJ
  have PO : ∀ q k, ¬ (q = 199 ∧ k = ak_nT lo) → ¬ (q = 110 ∧ k = 127) → (ak_psM hmL (ak_nT lo) (hm.1 110 135) (hm.2.1 110 136)).1 q k = hmL.1 q k := fun q k a b => ak_psM_o a b
  have POJ : ∀ q k, ¬ (q = 200 ∧ k = ak_nT lo) → (ak_psM hmL (ak_nT lo) (hm.1 110 135) (hm.2.1 110 136)).2.1 q k = hmL.2.1 q k := fun q k a => ak_psM_J a
  obtain ⟨P1, P2, P3⟩ := ak_psM_v (hm := hmL) (n := ak_nT lo) (s := hm.1 110 135) (x := hm.2.1 110 136)
  generalize ak_psM hmL (ak_nT lo) (hm.1 110 135) (hm.2.1 110 136) = hmF at goM PO POJ P1 P2 P3
  obtain ⟨hc', g1, g2, g3⟩ := ak_exit (e := e) (d := d) (ρ1 := ρ1) (ρ2 := ρ2) (ρ := ρ) (hmF := hmF) w hx (fun q k a b c' => (PO q k c' (by omega)).trans (O q k (by omega) b)) (fun q k a _ => (POJ q k a).trans (by rw [OJ])) ((PO _ _ (by omega) (by omega)).trans i1) ((PO _ _ (by omega) (by omega)).trans i2) P3 ((PO _ _ (by omega) (by omega)).trans i4) ((PO _ _ (by omega) (by omega)).trans i5) ((PO _ _ (by omega) (by omega)).trans i6) ⟨P1, P2⟩
  exact ⟨hc', hmF, g1, goM, g2, g3⟩
end LVX
