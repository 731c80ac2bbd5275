/-! all calls, the run being left to its user -/
section CALLS
variable {e : ak_X3} {d d' n : Nat} {ρ : List Nat} {a m : Nat} {ar : List am_V} {hc hm : ak_S} {cd : List (Nat × Int)} {R R' : ak_S → ak_S → Prop}
theorem ak_cI_deep (hd : d ≤ d') (w : ak_cI e d ρ a m ar hc hm cd R) : ak_cI e d' ρ a m ar hc hm cd R :=
  ak_MI_deep hd (ak_MI_imp w (fun v hc' q => ak_MI_deep hd q) (fun x hc' ⟨c, q1, q2⟩ => ⟨c, q1, ak_MI_deep hd q2⟩))
theorem ak_cJ_deep (hd : d ≤ d') (w : ak_cJ e d ρ a m ar hc hm cd R) : ak_cJ e d' ρ a m ar hc hm cd R :=
  ak_MJ_deep hd (ak_MJ_imp w (fun v hc' q => ak_MJ_deep hd q) (fun x hc' ⟨c, q1, q2⟩ => ⟨c, q1, ak_MJ_deep hd q2⟩))
theorem ak_cV_deep (hd : d ≤ d') (w : ak_cV e d ρ a m ar hc hm cd R) : ak_cV e d' ρ a m ar hc hm cd R :=
  ak_MV_deep hd (ak_MV_imp w (fun hc' q => ak_MV_deep hd q) (fun x hc' ⟨c, q1, q2⟩ => ⟨c, q1, ak_MV_deep hd q2⟩))
theorem ak_cZ_deep (hd : d ≤ d') (w : ak_cZ e d ρ a m ar hc hm cd R) : ak_cZ e d' ρ a m ar hc hm cd R :=
  ak_MI_deep hd (ak_MI_imp w (fun v hc' q => ⟨q.1, ak_MI_deep hd q.2⟩) (fun x hc' ⟨c, q1, q2⟩ => ⟨c, q1, ak_MI_deep hd q2⟩))
theorem ak_cI_imp (w : ak_cI e d ρ a m ar hc hm cd R) (h : ∀ x y, R x y → R' x y) : ak_cI e d ρ a m ar hc hm cd R' :=
  ak_MI_imp w (fun v hc' q => ak_MI_imp q (fun b hm' r => ⟨h _ _ r.1, r.2⟩) (fun _ _ z => z)) (fun x hc' ⟨c, q1, q2⟩ => ⟨c, q1, ak_MI_imp q2 (fun b hm' r => ⟨h _ _ r.1, r.2⟩) (fun _ _ z => z)⟩)
theorem ak_cJ_imp (w : ak_cJ e d ρ a m ar hc hm cd R) (h : ∀ x y, R x y → R' x y) : ak_cJ e d ρ a m ar hc hm cd R' :=
  ak_MJ_imp w (fun v hc' q => ak_MJ_imp q (fun b hm' r => ⟨h _ _ r.1, r.2⟩) (fun _ _ z => z)) (fun x hc' ⟨c, q1, q2⟩ => ⟨c, q1, ak_MJ_imp q2 (fun b hm' r => ⟨h _ _ r.1, r.2⟩) (fun _ _ z => z)⟩)
theorem ak_cZ_imp (w : ak_cZ e d ρ a m ar hc hm cd R) (h : ∀ x y, R x y → R' x y) : ak_cZ e d ρ a m ar hc hm cd R' :=
  ak_MI_imp w (fun v hc' q => ⟨q.1, ak_MI_imp q.2 (fun b hm' r => ⟨h _ _ r.1, r.2⟩) (fun _ _ z => z)⟩) (fun x hc' ⟨c, q1, q2⟩ => ⟨c, q1, ak_MI_imp q2 (fun b hm' r => ⟨h _ _ r.1, r.2⟩) (fun _ _ z => z)⟩)
/-- forgetting, both sides -/
theorem ak_LD_fgt {s us : Nat} {hc hm hc' hm' : ak_S} (hs : s = 0 ∨ s = 1) (L : ak_LD s us hc hm) (fc : ∀ q k, q ≠ 47 → ¬ (q = 44 ∧ (k = 4 ∨ k = 6)) → hc'.1 q k = hc.1 q k) (z47 : ∀ k, k < 900 → hc'.1 47 k = 0) (z44 : hc'.1 44 4 = 0) (hJ : hc'.2 = hc.2)
    (fm : ∀ q k, ¬ (158 ≤ q ∧ q ≤ 163) → ¬ (q = 110 ∧ (k = 0 ∨ k = 71 ∨ k = 78)) → hm'.1 q k = hm.1 q k) (z158 : ∀ q k, 158 ≤ q → q ≤ 163 → k < 150 → hm'.1 q k = 0) (z78 : hm'.1 110 78 = 0) (mJ : hm'.2 = hm.2) (mn : hc'.1 44 6 = hm'.1 110 71 ∧ 0 ≤ hm'.1 110 71 ∧ hm'.1 110 71 ≤ 2) : ak_LD s us hc' hm' := by
  have hT := ak_T_bd hs
  obtain ⟨h0, m0, b, n, m, Mt, z, S, O, B, T, sh, E, Et, G, φ, hr, lv, mt, Us, FR, tx, ag, ⟨hO, wd⟩, st, rm, jn⟩ := L
  refine ⟨h0, m0, b, n, m, Mt, z, S, O, B, T, sh, fun _ => [], [], G, φ, hr, lv, mt, Us, FR, tx, ak_agT_fr ag (fun q k g3 g4 => ⟨fc q k (by omega) (by omega), by rw [hJ]⟩) (fun q k g => fm q k (by unfold ak_tmI at g; omega) (by unfold ak_tmI at g; omega)), ⟨hO, ?_⟩, ?_, ?_, ?_⟩
  · exact ak_WD_fr wd ⟨fun q k g => fc q k (by omega) (by omega), fun k => by rw [hJ]⟩ ⟨fun q k g => fm q k (by omega) (by omega), fun k => by rw [mJ]⟩
  · obtain ⟨⟨u1, u2, u3, u4⟩, si, _, ⟨g1, g2, g3⟩, _, ly⟩ := st
    refine ⟨⟨(fm _ _ (by omega) (by omega)).trans u1, u2, (fm _ _ (by omega) (by omega)).trans u3, u4⟩, fun i hi => ⟨⟨Nat.zero_le _, fun _ => rfl, fun en he => (by cases he)⟩, ⟨fun k en he => (by cases he), fun k en he => (by cases he), z47 _ (by omega), z158 159 i (by omega) (by omega) hi⟩, ⟨?_, ?_⟩, ?_, ?_, ?_, ?_, ⟨fun en he => (by cases he), ?_, fun _ => rfl, fun _ => Nat.zero_le _⟩⟩, ⟨⟨Nat.zero_le _, fun en he => (by cases he)⟩, fun k en he => (by cases he), fun k en he => (by cases he), z44, z78⟩,
      ⟨ak_gnC_fr g1 (fun q k hq => fc q k (by omega) (by omega)), ak_gnM_fr g2 (fun q k hq => fm q k (by omega) (by omega)), g3⟩, ⟨mn.1, mn.2⟩, ak_ly_fr ly (fun q k hq => fm q k (by omega) (by omega))⟩
    · rw [z47 _ (by omega), z158 162 i (by omega) (by omega) hi]
    · rw [z158 162 i (by omega) (by omega) hi]; decide
    · rw [z47 _ (by omega), z158 158 i (by omega) (by omega) hi]
    · rw [z47 _ (by omega), z158 160 i (by omega) (by omega) hi]
    · rw [z47 _ (by omega), z158 161 i (by omega) (by omega) hi]
    · rw [z47 _ (by omega), z158 163 i (by omega) (by omega) hi]
    · rw [z158 158 i (by omega) (by omega) hi]; decide
  · exact ak_RM_fr rm (fun q k g3 g4 => ⟨fc q k (by omega) (by omega), by rw [hJ]⟩) (fun q k g => ⟨fm q k (by omega) (by omega), by rw [mJ]⟩)
  · exact ak_jn_fr jn (fun q k g3 g4 => ⟨fc q k (by omega) (by omega), by rw [hJ]⟩) (fun q k g => ⟨fm q k (by omega) (by omega), by rw [mJ]⟩)
/-- the run, as a call -/
def ak_RUN (e : ak_X3) (d : Nat) : Prop := ∀ (u us ρ1 ρ2 : Nat) (hc hm : ak_S) (R : ak_S → ak_S → Prop) (x0 x1 x2 : Int), (u = 0 ∨ u = 1) → ak_all us hc hm → ak_LD u us hc hm → hc.1 1 8 = 1 → hm.1 110 4 = 1 → ak_em hc → ak_rr u us R hc hm → ak_r32 x0 → ak_r64 x1 → ak_r64 x2 →
  ak_cI e d [ak_T u, ρ1, ρ2, ak_T u, ak_T u + 1] 171 302 [am_i x0, am_l x1, am_l x2] hc hm [(0, 1), (1, 2)] R
theorem ak_Rl_mono (w : ak_Rl n ρ hc hm) : ak_Rl (n + 1) ρ hc hm := ⟨⟨by have := w.1.1; omega, by have := w.1.2; omega⟩, w.2⟩
theorem ak_Rl_of {s c r2 us : Nat} {hc' hm' : ak_S} (w : ak_Rl n ρ hc hm) (hs : (s = 0 ∧ c = 1) ∨ (s = 1 ∧ c = 0)) (hρ : ρ = [ak_T s, ak_T c, r2, ak_T s, ak_T s + 1]) (c1 : hc'.2.2.1 ≤ hc.2.2.1 + 1) (c2 : hc'.2.2.2 ≤ hc.2.2.2 + 6) (A : ak_all us hc' hm') (O : ak_old s us hc' hm') (E : ak_em hc') : ak_Rl (n + 1) ρ hc' hm' :=
  ⟨⟨by have := w.1.1; omega, by have := w.1.2; omega⟩, s, c, r2, us, hs, hρ, A, O, E⟩
theorem am_calls {d : Nat} (hrun : ak_RUN e (d + 443)) (w : ak_Rl n ρ hc hm) : ak_calls e (d + 443) ρ hc hm (ak_Rl (n + 1)) := by
  have w' := w
  obtain ⟨cnt, s, c, r2, us, hs, hρ, A, O, EM⟩ := w'
  have hu : s = 0 ∨ s = 1 := by omega
  have us2 := A.1
  have hT : (ak_T s = 9 ∧ ak_T c = 87) ∨ (ak_T s = 87 ∧ ak_T c = 9) := by unfold ak_T; omega
  have fin : ∀ hc' hm' : ak_S, hc'.2.2.1 ≤ hc.2.2.1 + 1 → hc'.2.2.2 ≤ hc.2.2.2 + 6 → ak_all us hc' hm' → ak_old s us hc' hm' → ak_em hc' → ak_Rl (n + 1) ρ hc' hm' := fun hc' hm' c1 c2 a o z => ak_Rl_of w hs hρ c1 c2 a o z
  subst hρ
  -- states that only told of a refusal
  have old_kC : ∀ hc' hm' : ak_S, ak_kC hc hc' → ak_kM hm hm' → (∀ q k, (q = 110 ∧ (k = 64 ∨ k = 67)) ∨ q = 154 ∨ q = 157 → hm'.1 q k = hm.1 q k) → ak_all us hc' hm' ∧ ak_old s us hc' hm' := by
    intro hc' hm' fc fm fl
    obtain ⟨wy, hwy⟩ := A.2.2.2.2.1
    refine ⟨ak_all_re A fc fm ⟨wy, ak_wyS_fr2 hwy (fun q k g => fl q k (by omega))⟩, ?_⟩
    rcases O with ⟨o1, o2⟩ | ⟨o1, o2, L⟩
    · exact Or.inl ⟨(fc.1 _ _ (by omega) (by omega) (by omega)).trans o1, (fm.1 _ _ (by omega) (by omega)).trans o2⟩
    · refine Or.inr ⟨(fc.1 _ _ (by omega) (by omega) (by omega)).trans o1, (fm.1 _ _ (by omega) (by omega)).trans o2, ?_⟩
      obtain ⟨h0, m0, b, n, m, Mt, z, S, O, B, T, sh, E, Et, G, φ, hr, lv, mt, Us, FR, tx, ag, ⟨hO, wd⟩, st, rm, jn⟩ := L
      exact ak_LD_re hu tx ag hO wd st rm jn fc fm (ak_ly_fr st.2.2.2.2.2 fl)
  have th : ∀ x, ak_Rl (n + 1) [ak_T s, ak_T c, r2, ak_T s, ak_T s + 1] (ak_th hc) (ak_no hm x) := fun x => by
    obtain ⟨a, o⟩ := old_kC (ak_th hc) (ak_no hm x) ⟨fun _ _ _ _ _ => rfl, fun _ _ _ => rfl⟩ ak_kM_no (fun q k g => ak_up_out (by omega))
    exact fin _ _ (Nat.le_refl _) (Nat.le_refl _) a o EM
  -- with nothing loaded
  have nl : ∀ hc' hm' : ak_S, ak_nl hc hm hc' hm' → ak_Rl (n + 1) [ak_T s, ak_T c, r2, ak_T s, ak_T s + 1] hc' hm' := fun hc' hm' q => by
    obtain ⟨rfl, rfl⟩ := q
    exact th 1
  -- the tape, the manner
  have tapeR : ∀ hc' hm' : ak_S, ak_tape hc' hm' → (∀ p k, p ≠ 4 → ¬ (p = 3 ∧ k = 1) → hc'.1 p k = hc.1 p k) → hc'.2 = hc.2 → (∀ p k, p ≠ 111 → ¬ (p = 110 ∧ (k = 0 ∨ k = 2)) → hm'.1 p k = hm.1 p k) → hm'.2 = hm.2 → ak_Rl (n + 1) [ak_T s, ak_T c, r2, ak_T s, ak_T s + 1] hc' hm' := by
    intro hc' hm' tp f1 f2 g1 g2
    obtain ⟨w1, w2, w3, w4, ⟨wy, w5⟩, w6, w7⟩ := A
    refine fin _ _ (by rw [f2]; omega) (by rw [f2]; omega) ⟨w1, (g1 _ _ (by omega) (by omega)).trans w2, tp, ?_, ⟨wy, ak_wyS_fr2 w5 (fun q k g => g1 q k (by omega) (by omega))⟩, fun k hk => (g1 _ _ (by omega) (by omega)).trans (w6 k hk), fun k hk => by rw [f2]; exact w7 k hk⟩ ?_ ⟨(f1 69 7 (by omega) (by omega)).trans EM.1, (f1 69 8 (by omega) (by omega)).trans EM.2⟩
    · rw [f1 44 6 (by omega) (by omega), g1 110 71 (by omega) (by omega)]; exact w4
    · rcases O with ⟨o1, o2⟩ | ⟨o1, o2, L⟩
      · exact Or.inl ⟨(f1 _ _ (by omega) (by omega)).trans o1, (g1 _ _ (by omega) (by omega)).trans o2⟩
      · refine Or.inr ⟨(f1 _ _ (by omega) (by omega)).trans o1, (g1 _ _ (by omega) (by omega)).trans o2, ?_⟩
        obtain ⟨h0, m0, b, n, m, Mt, z, S, O, B, T, sh, E, Et, G, φ, hr, lv, mt, Us, FR, tx, ag, ⟨hO, wd⟩, st, rm, jn⟩ := L
        refine ⟨h0, m0, b, n, m, Mt, z, S, O, B, T, sh, E, Et, G, φ, hr, lv, mt, Us, FR, tx, ak_agT_fr ag (fun q k g3 g4 => ⟨f1 q k (by omega) (by omega), by rw [f2]⟩) (fun q k g => g1 q k (by unfold ak_tmI at g; omega) (by unfold ak_tmI at g; omega)), ⟨hO, ?_⟩, ?_, ?_, ?_⟩
        · exact ak_WD_fr wd ⟨fun q k g => f1 q k (by omega) (by omega), fun k => by rw [f2]⟩ ⟨fun q k g => g1 q k (by omega) (by omega), fun k => by rw [g2]⟩
        · exact ak_ST_fr st (fun q k g => f1 q k (by omega) (by omega)) (fun k => by rw [f2]) (fun q k g => g1 q k (by omega) (by omega))
        · exact ak_RM_fr rm (fun q k g3 g4 => ⟨f1 q k (by omega) (by omega), by rw [f2]⟩) (fun q k g => ⟨g1 q k (by omega) (by omega), by rw [g2]⟩)
        · exact ak_jn_fr jn (fun q k g3 g4 => ⟨f1 q k (by omega) (by omega), by rw [f2]⟩) (fun q k g => ⟨g1 q k (by omega) (by omega), by rw [g2]⟩)
  have rr : ∀ (L : ak_LD s us hc hm) (k1 : hc.1 1 8 = 1) (k2 : hm.1 110 4 = 1), ak_rr s us (ak_Rl (n + 1) [ak_T s, ak_T c, r2, ak_T s, ak_T s + 1]) hc hm := fun _ _ _ hc' hm' c1 c2 a l k1 k2 z => fin hc' hm' c1 c2 a (Or.inr ⟨k1, k2, l⟩) (z EM)
  -- forgetting
  have fgt : ∀ (hc' hm' : ak_S), (∀ q k, q ≠ 47 → ¬ (q = 44 ∧ (k = 4 ∨ k = 6)) → hc'.1 q k = hc.1 q k) → (∀ k, k < 900 → hc'.1 47 k = 0) → hc'.1 44 4 = 0 → hc'.2 = hc.2 → (∀ q k, ¬ (158 ≤ q ∧ q ≤ 163) → ¬ (q = 110 ∧ (k = 0 ∨ k = 71 ∨ k = 78)) → hm'.1 q k = hm.1 q k) → (∀ q k, 158 ≤ q → q ≤ 163 → k < 150 → hm'.1 q k = 0) → hm'.1 110 78 = 0 → hm'.2 = hm.2 → (hc'.1 44 6 = hm'.1 110 71 ∧ 0 ≤ hm'.1 110 71 ∧ hm'.1 110 71 ≤ 2) → ak_Rl (n + 1) [ak_T s, ak_T c, r2, ak_T s, ak_T s + 1] hc' hm' := by
    intro hc' hm' fc z47 z44 hJ fm z158 z78 mJ mn
    obtain ⟨w1, w2, ⟨n', t1, t2, t3, t4⟩, w4, ⟨wy, w5⟩, w6, w7⟩ := A
    refine fin _ _ (by rw [hJ]; omega) (by rw [hJ]; omega) ⟨w1, (fm _ _ (by omega) (by omega)).trans w2, ⟨n', t1, (fc _ _ (by omega) (by omega)).trans t2, (fm _ _ (by omega) (by omega)).trans t3, fun k hk => ?_⟩, mn, ⟨wy, ak_wyS_fr2 w5 (fun q k g => fm q k (by omega) (by omega))⟩, fun k hk => (fm _ _ (by omega) (by omega)).trans (w6 k hk), fun k hk => by rw [hJ]; exact w7 k hk⟩ ?_ ⟨(fc 69 7 (by omega) (by omega)).trans EM.1, (fc 69 8 (by omega) (by omega)).trans EM.2⟩
    · rw [fc 4 k (by omega) (by omega), fm 111 k (by omega) (by omega)]; exact t4 k hk
    · rcases O with ⟨o1, o2⟩ | ⟨o1, o2, L⟩
      · exact Or.inl ⟨(fc _ _ (by omega) (by omega)).trans o1, (fm _ _ (by omega) (by omega)).trans o2⟩
      · exact Or.inr ⟨(fc _ _ (by omega) (by omega)).trans o1, (fm _ _ (by omega) (by omega)).trans o2, ak_LD_fgt hu L fc z47 z44 hJ fm z158 z78 mJ mn⟩
  have jn : ak_LD s us hc hm → ak_jn hc hm := fun L => by
    obtain ⟨h0, m0, b, n, m, Mt, z, S, O, B, T, sh, E, Et, G, φ, hr, lv, mt, Us, FR, tx, ag, wd, st, rm, jn⟩ := L
    exact jn
  refine ⟨?_, ?_, ?_, ?_, ?_, ?_, ?_, ?_, ?_, ?_, ?_, ?_, ?_, ?_, ?_, ?_, ?_, ?_, ?_, ?_, ?_, ?_, ?_, ?_, ?_, ?_⟩
  · intro x0 x1 x2 x3 x4 g0 g1 g2 g3 g4
    exact ak_cI_deep (show 0 + 2 ≤ d + 443 by omega) (am_feed hu g0 g1 g2 g3 g4 A.2.2.1 (fun hc' hm' tp f1 f2 _ => tapeR _ _ tp f1.1 f1.2 f2.1 f2.2) (th 1))
  · intro x0 g0
    refine ak_cV_deep (show 0 + 2 ≤ d + 443 by omega) (am_end hu A.2.2.1 (fun n' tp => tapeR _ _ tp (fun p k a b => ak_up_out (by omega)) rfl (fun p k a b => (ak_up_out (by omega)).trans (ak_up_out (by omega))) rfl) (th 1))
  · intro x0 g0
    refine ak_cV_deep (show 0 + 3 ≤ d + 443 by omega) (am_manner hu (fun b0 b2 => fgt _ _ (fun q k a b => ?_) (fun k hk => ?_) ?_ rfl (fun q k a b => ?_) (fun q k a b hk => ?_) ?_ rfl ⟨?_, ?_⟩) (th 1))
    · show am_up (ak_zC (am_up hc.1 44 6 x0, hc.2) 900).1 44 4 0 q k = _
      rw [ak_up_out (by omega)]
      exact (if_neg (by omega)).trans (ak_up_out (by omega))
    · show am_up (ak_zC (am_up hc.1 44 6 x0, hc.2) 900).1 44 4 0 47 k = _
      rw [ak_up_out (by omega)]
      exact if_pos ⟨rfl, hk⟩
    · show am_up (ak_zC (am_up hc.1 44 6 x0, hc.2) 900).1 44 4 0 44 4 = _
      exact ak_up_at
    · show am_up (ak_zM (am_up (am_up hm.1 110 0 0) 110 71 x0, hm.2) 150).1 110 78 0 q k = _
      rw [ak_up_out (by omega)]
      exact (if_neg (by omega)).trans ((ak_up_out (by omega)).trans (ak_up_out (by omega)))
    · show am_up (ak_zM (am_up (am_up hm.1 110 0 0) 110 71 x0, hm.2) 150).1 110 78 0 q k = _
      rw [ak_up_out (by omega)]
      exact if_pos ⟨⟨a, b⟩, hk⟩
    · show am_up (ak_zM (am_up (am_up hm.1 110 0 0) 110 71 x0, hm.2) 150).1 110 78 0 110 78 = _
      exact ak_up_at
    · show am_up (ak_zC (am_up hc.1 44 6 x0, hc.2) 900).1 44 4 0 44 6 = am_up (ak_zM (am_up (am_up hm.1 110 0 0) 110 71 x0, hm.2) 150).1 110 78 0 110 71
      simp [am_up, ak_zC, ak_zM]
    · have e7 : am_up (ak_zM (am_up (am_up hm.1 110 0 0) 110 71 x0, hm.2) 150).1 110 78 0 110 71 = x0 := by simp [am_up, ak_zM]
      show 0 ≤ am_up (ak_zM (am_up (am_up hm.1 110 0 0) 110 71 x0, hm.2) 150).1 110 78 0 110 71 ∧ am_up (ak_zM (am_up (am_up hm.1 110 0 0) 110 71 x0, hm.2) 150).1 110 78 0 110 71 ≤ 2
      rw [e7]
      exact ⟨b0, b2⟩
  · intro x0 x1 x2 g0 g1 g2
    rcases O with ⟨o1, o2⟩ | ⟨o1, o2, L⟩
    · exact ak_cI_imp (ak_cI_deep (show 0 + 2 ≤ d + 443 by omega) (am_nl171 hu o1 o2)) nl
    · exact hrun s us _ _ hc hm _ x0 x1 x2 hu A L o1 o2 EM (rr L o1 o2) g0 g1 g2
  · intro x0 g0
    rcases O with ⟨o1, o2⟩ | ⟨o1, o2, L⟩
    · exact ak_cJ_imp (ak_cJ_deep (show 0 + 2 ≤ d + 443 by omega) (am_nl172 hu o1 o2)) nl
    · exact ak_cJ_deep (show 0 + 2 ≤ d + 443 by omega) (am_ld172 hu (by omega) (by omega) (jn L) (ak_RR_of hu A L o1 o2 (rr L o1 o2)))
  · intro x0 x1 g0 g1
    rcases O with ⟨o1, o2⟩ | ⟨o1, o2, L⟩
    · exact ak_cJ_imp (ak_cJ_deep (show 0 + 2 ≤ d + 443 by omega) (am_nl173 hu o1 o2)) nl
    · exact ak_cJ_deep (show 0 + 2 ≤ d + 443 by omega) (am_ld173 hu (by omega) (by omega) (jn L) (ak_RR_of hu A L o1 o2 (rr L o1 o2)))
  · intro x0 x1 g0 g1
    rcases O with ⟨o1, o2⟩ | ⟨o1, o2, L⟩
    · exact ak_cJ_imp (ak_cJ_deep (show 0 + 2 ≤ d + 443 by omega) (am_nl174 hu o1 o2)) nl
    · exact ak_cJ_deep (show 0 + 2 ≤ d + 443 by omega) (am_ld174 hu (by omega) (by omega) (jn L) (ak_RR_of hu A L o1 o2 (rr L o1 o2)))
  · intro x0 x1 g0 g1
    rcases O with ⟨o1, o2⟩ | ⟨o1, o2, L⟩
    · exact ak_cJ_imp (ak_cJ_deep (show 0 + 2 ≤ d + 443 by omega) (am_nl175 hu o1 o2)) nl
    · exact ak_cJ_deep (show 0 + 2 ≤ d + 443 by omega) (am_ld175 hu (by omega) (by omega) (jn L) (ak_RR_of hu A L o1 o2 (rr L o1 o2)))
  · intro x0 g0
    rcases O with ⟨o1, o2⟩ | ⟨o1, o2, L⟩
    · exact ak_cI_imp (ak_cI_deep (show 0 + 2 ≤ d + 443 by omega) (am_nl176 hu o1 o2)) nl
    · have q := ak_RR_of hu A L o1 o2 (rr L o1 o2)
      have j := jn L
      obtain ⟨h0, m0, b, n, m, Mt, z, S, O, B, T, sh, E, Et, G, φ, hr, lv, mt, Us, FR, tx, ag, _⟩ := L
      obtain ⟨⟨a1, a2, a3, a4⟩, _⟩ := ak_tx_now tx ag
      exact ak_cI_deep (show 0 + 2 ≤ d + 443 by omega) (am_ld176 hu (by omega) (by omega) j A.2.1 us2 a1 a2 a4 q)
  · intro x0 x1 x2 x3 g0 g1 g2 g3
    rcases O with ⟨o1, o2⟩ | ⟨o1, o2, L⟩
    · exact ak_cI_imp (ak_cI_deep (show 0 + 2 ≤ d + 443 by omega) (am_nl177 hu o1 o2)) nl
    · exact ak_cI_deep (show 0 + 9 ≤ d + 443 by omega) (am_ld177 hu A L o1 o2 (rr L o1 o2) g3)
  · intro x0 g0
    rcases O with ⟨o1, o2⟩ | ⟨o1, o2, L⟩
    · exact ak_cI_imp (ak_cI_deep (show 0 + 2 ≤ d + 443 by omega) (am_nl178 hu o1 o2)) nl
    · exact ak_cI_deep (show 0 + 2 ≤ d + 443 by omega) (am_ld178 hu A L o1 o2 (rr L o1 o2))
  · intro x0 x1 g0 g1
    rcases O with ⟨o1, o2⟩ | ⟨o1, o2, L⟩
    · exact ak_cI_imp (ak_cI_deep (show 0 + 2 ≤ d + 443 by omega) (am_nl179 hu o1 o2)) nl
    · exact ak_cI_deep (show 0 + 2 ≤ d + 443 by omega) (am_ld179 hu A L o1 o2 (rr L o1 o2))
  · intro x0 g0
    rcases O with ⟨o1, o2⟩ | ⟨o1, o2, L⟩
    · exact ak_cI_imp (ak_cI_deep (show 0 + 2 ≤ d + 443 by omega) (am_nl180 hu o1 o2)) nl
    · exact ak_cI_deep (show 0 + 2 ≤ d + 443 by omega) (am_ld180 hu A L o1 o2 (rr L o1 o2))
  · intro x0 x1 g0 g1
    rcases O with ⟨o1, o2⟩ | ⟨o1, o2, L⟩
    · exact ak_cI_imp (ak_cI_deep (show 0 + 2 ≤ d + 443 by omega) (am_nl181 hu o1 o2)) nl
    · exact ak_cI_deep (show 0 + 2 ≤ d + 443 by omega) (am_ld181 hu A L o1 o2 (rr L o1 o2) g1)
  · intro x0 x1 x2 g0 g1 g2
    rcases O with ⟨o1, o2⟩ | ⟨o1, o2, L⟩
    · exact ak_cI_imp (ak_cI_deep (show 0 + 2 ≤ d + 443 by omega) (am_nl182 hu o1 o2)) nl
    · exact ak_cI_deep (show 0 + 2 ≤ d + 443 by omega) (am_ld182 hu A L o1 o2 (rr L o1 o2))
  · intro x0 x1 x2 g0 g1 g2
    rcases O with ⟨o1, o2⟩ | ⟨o1, o2, L⟩
    · exact ak_cJ_imp (ak_cJ_deep (show 0 + 2 ≤ d + 443 by omega) (am_nl183 hu o1 o2)) nl
    · exact ak_cJ_deep (show 0 + 3 ≤ d + 443 by omega) (am_ld183 hu A L o1 o2 (rr L o1 o2))
  · intro x0 x1 g0 g1
    rcases O with ⟨o1, o2⟩ | ⟨o1, o2, L⟩
    · exact ak_cI_imp (ak_cI_deep (show 0 + 2 ≤ d + 443 by omega) (am_nl184 hu o1 o2)) nl
    · exact ak_cI_deep (show 0 + 4 ≤ d + 443 by omega) (am_ld184 hu A L o1 o2 (rr L o1 o2))
  · intro x0 x1 x2 g0 g1 g2
    rcases O with ⟨o1, o2⟩ | ⟨o1, o2, L⟩
    · exact ak_cI_imp (ak_cI_deep (show 0 + 2 ≤ d + 443 by omega) (am_nl185 hu o1 o2)) nl
    · exact ak_cI_deep (show 0 + 5 ≤ d + 443 by omega) (am_ld185 hu A L o1 o2 (rr L o1 o2))
  · intro x0 x1 g0 g1
    rcases O with ⟨o1, o2⟩ | ⟨o1, o2, L⟩
    · exact ak_cI_imp (ak_cI_deep (show 0 + 2 ≤ d + 443 by omega) (am_nl186 hu o1 o2)) nl
    · exact ak_cI_deep (show 0 + 2 ≤ d + 443 by omega) (am_ld186 hu A L o1 o2 (rr L o1 o2))
  · intro x0 x1 x2 g0 g1 g2
    rcases O with ⟨o1, o2⟩ | ⟨o1, o2, L⟩
    · exact ak_cI_imp (ak_cI_deep (show 0 + 2 ≤ d + 443 by omega) (am_nl187 hu o1 o2)) nl
    · exact ak_cI_deep (show 0 + 3 ≤ d + 443 by omega) (am_ld187 hu A L o1 o2 (rr L o1 o2))
  · intro x0 x1 x2 g0 g1 g2
    rcases O with ⟨o1, o2⟩ | ⟨o1, o2, L⟩
    · exact ak_cZ_imp (ak_cZ_deep (show 0 + 2 ≤ d + 443 by omega) (am_nl188 hu o1 o2)) nl
    · exact ak_cZ_deep (show 0 + 5 ≤ d + 443 by omega) (am_ld188 hu A L o1 o2 (rr L o1 o2))
  · rcases O with ⟨o1, o2⟩ | ⟨o1, o2, L⟩
    · exact ak_cI_imp (ak_cI_deep (show 0 + 2 ≤ d + 443 by omega) (am_nl189 hu o1 o2)) nl
    · exact ak_cI_deep (show 0 + 2 ≤ d + 443 by omega) (am_ld189 hu A L o1 o2 (rr L o1 o2))
  · intro x0 x1 g0 g1
    rcases O with ⟨o1, o2⟩ | ⟨o1, o2, L⟩
    · exact ak_cI_imp (ak_cI_deep (show 0 + 2 ≤ d + 443 by omega) (am_nl190 hu o1 o2)) nl
    · exact ak_cI_deep (show 0 + 2 ≤ d + 443 by omega) (am_ld190 hu A L o1 o2 (rr L o1 o2))
  · rcases O with ⟨o1, o2⟩ | ⟨o1, o2, L⟩
    · exact ak_cI_imp (ak_cI_deep (show 0 + 2 ≤ d + 443 by omega) (am_nl191 hu o1 o2)) nl
    · exact ak_cI_deep (show 0 + 6 ≤ d + 443 by omega) (am_ld191 hu A L o1 o2 (rr L o1 o2))
  · refine ak_MV_deep (show 0 + 3 ≤ d + 443 by omega) (ak_MV_imp (am_forget (d := 0) hu (R := ak_Rl (n + 1) [ak_T s, ak_T c, r2, ak_T s, ak_T s + 1]) ?_) (fun hc' q => ak_MV_deep (show 0 + 3 ≤ d + 443 by omega) q) (fun _ _ z => z))
    refine fgt (ak_fC hc) (ak_fM (ak_no hm 0)) (fun q k a b => ?_) (fun k hk => ?_) ?_ rfl (fun q k a b => ?_) (fun q k a b hk => ?_) ?_ rfl ?_
    · show am_up (ak_zC hc 900).1 44 4 0 q k = _
      rw [ak_up_out (by omega)]
      exact if_neg (by omega)
    · show am_up (ak_zC hc 900).1 44 4 0 47 k = _
      rw [ak_up_out (by omega)]
      exact if_pos ⟨rfl, hk⟩
    · show am_up (ak_zC hc 900).1 44 4 0 44 4 = _
      exact ak_up_at
    · show am_up (ak_zM (ak_no hm 0) 150).1 110 78 0 q k = _
      rw [ak_up_out (by omega)]
      exact (if_neg (by omega)).trans (ak_up_out (by omega))
    · show am_up (ak_zM (ak_no hm 0) 150).1 110 78 0 q k = _
      rw [ak_up_out (by omega)]
      exact if_pos ⟨⟨a, b⟩, hk⟩
    · show am_up (ak_zM (ak_no hm 0) 150).1 110 78 0 110 78 = _
      exact ak_up_at
    · have e1 : (ak_fC hc).1 44 6 = hc.1 44 6 := by unfold ak_fC ak_zC; simp [am_up]
      have e2 : (ak_fM (ak_no hm 0)).1 110 71 = hm.1 110 71 := by unfold ak_fM ak_zM ak_no; simp [am_up]
      rw [e1, e2]
      exact A.2.2.2.1
  · refine am_load hs A O (fun p hc' hm' c1 c2 a k1 k2 l z => ?_) (fun hc' hm' c1 c2 a o z => ?_)
    · exact ⟨⟨by have := w.1.1; omega, by have := w.1.2; omega⟩, c, s, ak_T c + 1, p, by omega, rfl, a, Or.inr ⟨k1, k2, l⟩, z EM⟩
    · exact ⟨⟨by have := w.1.1; omega, by have := w.1.2; omega⟩, s, c, ak_T c + 1, us, hs, rfl, a, o, z EM⟩
end CALLS
