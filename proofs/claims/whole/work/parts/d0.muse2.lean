/-! a site is used, by the other: the whole of it -/
section MUSE2
variable {e : ak_X3} {d i S O s us0 : Nat} {ρ : List Nat} {T : Nat → List (Int × Int)} {sh : Nat → Nat} {h h' h2 : ak_S} {E Et : List ak_E} {X : Nat → ak_S → Prop} {nm st : Int}
theorem am_s260 {Q : ak_S → Prop} {M sv us ms ts : Int} (W : ak_Tok S T O) (hO : O ≤ 200) (MT : ak_tM S T h) (hob : ∀ o, o < O → sh o < S ∧ ak_ob (T (sh o)) o h) (L : ak_ly S O T sh h) (hs : s < S) (hst : -1 ≤ st ∧ st ≤ 200) (hu : h.1 110 3 = (us0 : Int)) (hu2 : us0 < 2) (hnm0 : h.1 129 (150 * us0 + i) = nm)
    (hi : i < 150) (hE : E.length ≤ 4) (B : ak_gM (4 * i) E h) (n1 : h.1 159 i = (E.length : Int)) (n0 : h.1 158 i = sv) (nM : h.1 110 71 = M) (hEt : Et.length ≤ 128) (Bt : ak_gM 600 Et h) (n4 : h.1 110 78 = (Et.length : Int))
    (n2 : h.1 160 i = us) (n3 : h.1 161 i = ms) (n5 : h.1 163 i = ts) (hok : ∀ en, en ∈ E ∨ en ∈ Et → ak_eok S O T sh en) (sv3 : 0 ≤ sv ∧ sv ≤ 3) (sv0 : sv = 0 → E.length = 0) (sv1 : sv = 1 → E.length ≤ 1)
    (q : ∀ h', ak_gM (4 * i) (ak_us M sv E Et (ak_en T sh O s nm st)).2.1 h' → h'.1 159 i = ((ak_us M sv E Et (ak_en T sh O s nm st)).2.1.length : Int) → h'.1 158 i = (ak_us M sv E Et (ak_en T sh O s nm st)).1 → ak_gM 600 (ak_us M sv E Et (ak_en T sh O s nm st)).2.2 h' → h'.1 110 78 = ((ak_us M sv E Et (ak_en T sh O s nm st)).2.2.length : Int) →
      h'.1 160 i = ak_us2 M us → h'.1 161 i = ak_us3 M sv ms E Et (ak_en T sh O s nm st) → h'.1 163 i = ak_us5 M sv ts E (ak_en T sh O s nm st) → h'.1 162 i = h.1 162 i → h'.1 110 69 = (ak_lu T sh O s nm st).1 → h'.1 110 70 = (ak_lu T sh O s nm st).2 → ak_ly S O T sh h' → ak_usM i h h' → Q h') :
    ak_MV e 1 (d + 5) ρ 260 [am_r 110, am_i (i : Int), am_i (s : Int), am_i st] h Q X := by
  have b1 : 0 ≤ (i : Int) ∧ (i : Int) < 150 := by omega
  have MTf : ∀ h1 : ak_S, (∀ q k, 147 ≤ q → q ≤ 149 ∨ (q = 110 ∧ k = 53) → h1.1 q k = h.1 q k) → (h1.1 110 53 = h.1 110 53) → ak_tM S T h1 := fun h1 f g => ⟨g.trans MT.1, fun s hs => ⟨(f _ _ (by omega) (by omega)).trans (MT.2 s hs).1, fun k x hx => by
    rw [f 148 _ (by omega) (by omega), f 149 _ (by omega) (by omega)]
    exact (MT.2 s hs).2 k x hx⟩⟩
  have obf : ∀ h1 : ak_S, (∀ q k, 141 ≤ q → q ≤ 144 → h1.1 q k = h.1 q k) → ∀ o, o < O → sh o < S ∧ ak_ob (T (sh o)) o h1 := fun h1 f o ho => ⟨(hob o ho).1, (f _ _ (by omega) (by omega)).trans (hob o ho).2.1, fun k x hx => by
    rw [f 143 _ (by omega) (by omega), f 144 _ (by omega) (by omega)]
    exact (hob o ho).2.2 k x hx⟩
  -- not remembered
  have miss : M ≠ 0 → ak_hit sv E Et (ak_en T sh O s nm st) = false → ∀ (h1 : ak_S), (∀ q k, ¬ ((q = 160 ∨ q = 163) ∧ k = i) → h1.1 q k = h.1 q k) → h1.2 = h.2 → h1.1 160 i = ak_us2 M us → h1.1 163 i = ak_us5 M sv ts E (ak_en T sh O s nm st) →
      ak_W0 e 1 (d + 4) 260 ρ 150 [some (am_r 110), some (am_i (i : Int)), some (am_i (s : Int)), some (am_i st), some (am_i nm), none] [] h1 (ak_qv Q X) := by
    intro hM hh h1 f f2 m2 m5
    have hnot : ¬ (M = 0 ∨ ak_hit sv E Et (ak_en T sh O s nm st) = true) := fun z => by
      rcases z with z | z
      · exact hM z
      · rw [hh] at z; exact absurd z (by decide)
    have e1 : ak_us M sv E Et (ak_en T sh O s nm st) = ak_rm M sv E Et (ak_en T sh O s nm st) := if_neg hnot
    have e3 : ak_us3 M sv ms E Et (ak_en T sh O s nm st) = am_w32 (ms + 1) := if_neg hnot
    rw [e1, e3] at q
    clear e1 e3
    refine am_k260_150 ?_
    rw [ak_natn, f 161 i (by omega), n3]
    have F3 : ∀ q k, ¬ (q = 161 ∧ k = i) → am_up h1.1 161 i (am_w32 (ms + 1)) q k = h1.1 q k := fun q k z => ak_up_out z
    have V3 : am_up h1.1 161 i (am_w32 (ms + 1)) 161 i = am_w32 (ms + 1) := by simp [am_up]
    have G1 : ∀ q k, ¬ ((q = 160 ∨ q = 163 ∨ q = 161) ∧ k = i) → am_up h1.1 161 i (am_w32 (ms + 1)) q k = h.1 q k := fun q k z => (F3 q k (by omega)).trans (f q k (by omega))
    have hg : ∃ h4 : ak_S, h4 = (am_up h1.1 161 i (am_w32 (ms + 1)), h1.2) := ⟨_, rfl⟩
    obtain ⟨h4, hg⟩ := hg
    have g1 : h4.1 = am_up h1.1 161 i (am_w32 (ms + 1)) := by rw [hg]
    have g2 : h4.2 = h1.2 := by rw [hg]
    rw [← g1] at F3 V3 G1
    rw [← hg]
    clear hg g1
    refine ⟨b1, b1, am_s251 (d := d) W hO (MTf h4 (fun q k a b => G1 q k (by omega)) (G1 _ _ (by omega))) (obf h4 (fun q k a b => G1 q k (by omega))) (ak_ly_fr L (fun q k hq => G1 q k (by omega))) hs hst (fun h3 l9 l10 L3 f3 => ?_)⟩
    have G : ∀ q k, ¬ (q = 110 ∧ (k = 64 ∨ k = 67 ∨ k = 69 ∨ k = 70)) → ¬ (154 ≤ q ∧ q ≤ 157) → ¬ ((q = 160 ∨ q = 163 ∨ q = 161) ∧ k = i) → h3.1 q k = h.1 q k := fun q k a b c => (f3.1 q k a b).trans (G1 q k c)
    have := am_s262 (e := e) (d := d + 1) (ρ := ρ) (h := h3) (E := E) (Et := Et) (X := fun _ _ => False) (en := ak_en T sh O s nm st) (Q := Q) (M := M) (sv := sv) hi hE (ak_gM_fr B (fun q k _ _ _ _ => G q k (by omega) (by omega) (by omega))) ((G _ _ (by omega) (by omega) (by omega)).trans n1) ((G _ _ (by omega) (by omega) (by omega)).trans n0) ((G _ _ (by omega) (by omega) (by omega)).trans nM) hEt (ak_gM_fr Bt (fun q k _ _ _ _ => G q k (by omega) (by omega) (by omega))) ((G _ _ (by omega) (by omega) (by omega)).trans n4) l9 l10 sv3 sv0 sv1
      (fun h5 k1 k2 k3 k4 k5 f5 => ?_)
    · exact this
    · refine q h5 k1 k2 k3 k4 k5 ?_ ?_ ?_ ?_ ?_ ?_ (ak_ly_fr L3 (fun q k hq => f5.1 q k (by omega) (by omega) (by omega))) ⟨fun q k a b c d' => (f5.1 q k (by omega) (by omega) (by omega)).trans (G q k (by omega) b (by omega)), f5.2.trans (f3.2.trans (g2.trans f2))⟩
      · exact (f5.1 _ _ (by omega) (by omega) (by omega)).trans ((f3.1 _ _ (by omega) (by omega)).trans ((F3 _ _ (by omega)).trans m2))
      · exact (f5.1 _ _ (by omega) (by omega) (by omega)).trans ((f3.1 _ _ (by omega) (by omega)).trans V3)
      · exact (f5.1 _ _ (by omega) (by omega) (by omega)).trans ((f3.1 _ _ (by omega) (by omega)).trans ((F3 _ _ (by omega)).trans m5))
      · exact (f5.1 _ _ (by omega) (by omega) (by omega)).trans (G _ _ (by omega) (by omega) (by omega))
      · exact (f5.1 _ _ (by omega) (by omega) (by omega)).trans l9
      · exact (f5.1 _ _ (by omega) (by omega) (by omega)).trans l10
  -- remembered
  have hit : ak_hit sv E Et (ak_en T sh O s nm st) = true → ∀ (en : ak_E) (h1 : ak_S), en.2.2.2 = ak_lu T sh O s nm st → (∀ q k, ¬ ((q = 160 ∨ q = 163) ∧ k = i) → h1.1 q k = h.1 q k) → h1.2 = h.2 → h1.1 160 i = ak_us2 M us → h1.1 163 i = ak_us5 M sv ts E (ak_en T sh O s nm st) → Q (am_up (am_up h1.1 110 69 en.2.2.2.1) 110 70 en.2.2.2.2, h1.2) := by
    intro hh en h1 el f f2 m2 m5
    have e1 : ak_us M sv E Et (ak_en T sh O s nm st) = (sv, E, Et) := if_pos (Or.inr hh)
    have e3 : ak_us3 M sv ms E Et (ak_en T sh O s nm st) = ms := if_pos (Or.inr hh)
    rw [e1, e3] at q
    clear e1 e3
    rw [el]
    have F : ∀ q k, ¬ (q = 110 ∧ (k = 69 ∨ k = 70)) → am_up (am_up h1.1 110 69 (ak_lu T sh O s nm st).1) 110 70 (ak_lu T sh O s nm st).2 q k = h1.1 q k := fun q k z => (ak_up_out (by omega)).trans (ak_up_out (by omega))
    have V9 : am_up (am_up h1.1 110 69 (ak_lu T sh O s nm st).1) 110 70 (ak_lu T sh O s nm st).2 110 69 = (ak_lu T sh O s nm st).1 := by simp [am_up]
    refine q (am_up (am_up h1.1 110 69 (ak_lu T sh O s nm st).1) 110 70 (ak_lu T sh O s nm st).2, h1.2) (ak_gM_fr B (fun q k _ _ _ _ => (F q k (by omega)).trans (f q k (by omega)))) ((F _ _ (by omega)).trans ((f _ _ (by omega)).trans n1)) ((F _ _ (by omega)).trans ((f _ _ (by omega)).trans n0)) (ak_gM_fr Bt (fun q k _ _ _ _ => (F q k (by omega)).trans (f q k (by omega)))) ((F _ _ (by omega)).trans ((f _ _ (by omega)).trans n4)) ((F _ _ (by omega)).trans m2) ((F _ _ (by omega)).trans ((f _ _ (by omega)).trans n3)) ((F _ _ (by omega)).trans m5) ((F 162 i (by omega)).trans (f 162 i (by omega))) V9 ak_up_at1 (ak_ly_fr L (fun q k hq => (F q k (by omega)).trans (f q k (by omega)))) ⟨fun q k a b c d' => (F q k (by omega)).trans (f q k (by omega)), f2⟩
  have hitv : ∀ (l : List ak_E) (en : ak_E), en ∈ l → (∀ en, en ∈ l → ak_eok S O T sh en) → ak_f3 s nm st en = true → en.2.2.2 = ak_lu T sh O s nm st := by
    intro l en he hl z
    obtain ⟨b1, b2, b3⟩ := ak_f3_iff.mp z
    rw [(hl en he).2.1.2, b1, b2, b3]
  refine ak_MV_of (Nat.le_of_ble_eq_true rfl) (am_k260_0 ?_)
  rw [nM, hu, show am_w32 (am_w32 (150 * (us0 : Int)) + (i : Int)) = ((150 * us0 + i : Nat) : Int) from ak_wmul (c := 150) (by omega), ak_natn, ak_natn, hnm0, n2, n0, n5]
  refine ⟨by omega, fun hM => ⟨b1, b1, b1, fun g => ?_, fun g => ⟨b1, b1, ?_⟩⟩, fun hM => ?_⟩
  · -- own entries
    have e2 : ak_us2 M us = am_w32 (us + 1) := if_neg hM
    rw [← e2]
    clear e2
    have eh : ak_hit sv E Et (ak_en T sh O s nm st) = decide (ak_fnd (ak_f3 s nm st) E < E.length) := if_neg g
    have e5 : ak_us5 M sv ts E (ak_en T sh O s nm st) = ak_inc (ak_tst (ak_f3 s nm st) E) ts := (if_neg hM).trans (if_neg g)
    have lp : ∀ (rest : List ak_E) (k : Nat) (h1 : ak_S), k + rest.length = E.length → ak_gM (4 * i + k) rest h1 → (∀ en, en ∈ rest → en ∈ E) → (∀ q k, ¬ ((q = 160 ∨ q = 163) ∧ k = i) → h1.1 q k = h.1 q k) → h1.2 = h.2 → h1.1 160 i = ak_us2 M us → h1.1 163 i = ak_inc k ts → ak_fnd (ak_f3 s nm st) E = k + ak_fnd (ak_f3 s nm st) rest →
        ak_W0 e 1 (d + 4) 260 ρ 105 [some (am_r 110), some (am_i (i : Int)), some (am_i (s : Int)), some (am_i st), some (am_i nm), some (am_i (k : Int))] [] h1 (ak_qv Q X) := by
      intro rest
      induction rest with
      | nil =>
        intro k h1 hk gR _ f f2 m2 m5 hf
        have hk2 : k = E.length := by simpa using hk
        have hf2 : ak_fnd (ak_f3 s nm st) E = k := hf
        have ht : ak_tst (ak_f3 s nm st) E = k := by unfold ak_tst; rw [if_neg (by omega)]; exact hk2.symm
        refine am_k260_105 ?_
        rw [ak_natn, f 159 i (by omega), n1]
        exact ⟨b1, fun _ => miss hM (by rw [eh]; exact decide_eq_false (by omega)) h1 f f2 m2 (by rw [e5, ht]; exact m5), fun g => by omega⟩
      | cons x rest ih =>
        intro k h1 hk gR hin f f2 m2 m5 hf
        have hk2 : k + rest.length + 1 = E.length := by simp at hk; omega
        have c : ak_eM h1 (4 * i + k) x := gR 0 x rfl
        refine am_k260_105 ?_
        rw [ak_natn, f 159 i (by omega), n1, m5, show am_w32 (am_w32 (4 * (i : Int)) + (k : Int)) = ((4 * i + k : Nat) : Int) from ak_wmul (c := 4) (by omega), ak_wj (show k < 1000000 by omega)]
        have F5 : ∀ q k', ¬ (q = 163 ∧ k' = i) → am_up h1.1 163 i (am_w32 (ak_inc k ts + 1)) q k' = h1.1 q k' := fun q k' z => ak_up_out z
        refine ⟨b1, fun g => by omega, fun _ => ⟨b1, b1, ak_MI_deep (show d + 2 ≤ d + 4 by omega) (am_s261 (d := d) (by omega) (ak_eM_fr c (fun q a b => F5 q _ (by omega))) (fun z => ⟨fun g => absurd g (by decide), fun _ => ?_⟩) (fun z => ⟨fun _ => ?_, fun g => absurd rfl g⟩))⟩⟩
        · have hf2 : ak_fnd (ak_f3 s nm st) E = k := by
            rw [hf]
            show k + (if ak_f3 s nm st x = true then 0 else ak_fnd (ak_f3 s nm st) rest + 1) = _
            rw [if_pos z]
            rfl
          have ht : ak_tst (ak_f3 s nm st) E = k + 1 := by unfold ak_tst; rw [if_pos (by omega), hf2]
          exact hit (by rw [eh]; exact decide_eq_true (by omega)) x (am_up h1.1 163 i (am_w32 (ak_inc k ts + 1)), h1.2) (hitv E x (hin x (List.mem_cons_self ..)) (fun en he => hok en (Or.inl he)) z) (fun q k' a => (F5 q k' (by omega)).trans (f q k' a)) f2 ((F5 _ _ (by omega)).trans m2) (by rw [e5, ht]; exact ak_up_at1)
        · refine ih (k + 1) (am_up h1.1 163 i (am_w32 (ak_inc k ts + 1)), h1.2) (by omega) (ak_gM_fr (ak_gM_tail gR) (fun q j _ _ _ _ => F5 q j (by omega))) (fun en he => hin en (List.mem_cons_of_mem _ he)) (fun q k' a => (F5 q k' (by omega)).trans (f q k' a)) f2 ((F5 _ _ (by omega)).trans m2) ak_up_at1 ?_
          rw [hf]
          show k + (if ak_f3 s nm st x = true then 0 else ak_fnd (ak_f3 s nm st) rest + 1) = _
          rw [if_neg z]
          omega
    have F2 : ∀ q k, ¬ (q = 160 ∧ k = i) → am_up h.1 160 i (ak_us2 M us) q k = h.1 q k := fun q k z => ak_up_out z
    exact lp E 0 (am_up h.1 160 i (ak_us2 M us), h.2) (by omega) (ak_gM_fr B (fun q k _ _ _ _ => F2 q k (by omega))) (fun en he => he) (fun q k a => F2 q k (by omega)) rfl ak_up_at1 ((F2 _ _ (by omega)).trans n5) (by omega)
  · -- the table
    have e2 : ak_us2 M us = am_w32 (us + 1) := if_neg hM
    have e5 : ak_us5 M sv ts E (ak_en T sh O s nm st) = am_w32 (ts + 1) := (if_neg hM).trans (if_pos g)
    have F2 : ∀ q k, ¬ ((q = 160 ∨ q = 163) ∧ k = i) → am_up (am_up h.1 160 i (am_w32 (us + 1))) 163 i (am_w32 (ts + 1)) q k = h.1 q k := fun q k z => (ak_up_out (by omega)).trans (ak_up_out (by omega))
    have m2 : am_up (am_up h.1 160 i (am_w32 (us + 1))) 163 i (am_w32 (ts + 1)) 160 i = ak_us2 M us := by rw [e2]; simp [am_up]
    have m5 : am_up (am_up h.1 160 i (am_w32 (us + 1))) 163 i (am_w32 (ts + 1)) 163 i = ak_us5 M sv ts E (ak_en T sh O s nm st) := by rw [e5]; simp [am_up]
    clear e2 e5
    have eh : ak_hit sv E Et (ak_en T sh O s nm st) = decide (ak_fnd (ak_f3 s nm st) Et < Et.length) := if_pos g
    have hg : ∃ h4 : ak_S, h4 = (am_up (am_up h.1 160 i (am_w32 (us + 1))) 163 i (am_w32 (ts + 1)), h.2) := ⟨_, rfl⟩
    obtain ⟨h4, hg⟩ := hg
    have g1 : h4.1 = am_up (am_up h.1 160 i (am_w32 (us + 1))) 163 i (am_w32 (ts + 1)) := by rw [hg]
    have g2 : h4.2 = h.2 := by rw [hg]
    rw [← g1] at F2 m2 m5
    rw [← hg]
    clear hg g1
    have lp : ∀ (rest : List ak_E) (k : Nat), k + rest.length = Et.length → ak_gM (600 + k) rest h4 → (∀ en, en ∈ rest → en ∈ Et) → ak_fnd (ak_f3 s nm st) Et = k + ak_fnd (ak_f3 s nm st) rest →
        ak_W0 e 1 (d + 4) 260 ρ 66 [some (am_r 110), some (am_i (i : Int)), some (am_i (s : Int)), some (am_i st), some (am_i nm), some (am_i (k : Int))] [] h4 (ak_qv Q X) := by
      intro rest
      induction rest with
      | nil =>
        intro k hk gR _ hf
        have hk2 : k = Et.length := by simpa using hk
        have hf2 : ak_fnd (ak_f3 s nm st) Et = k := hf
        refine am_k260_66 ?_
        rw [F2 110 78 (by omega), n4]
        exact ⟨fun _ => miss hM (by rw [eh]; exact decide_eq_false (by omega)) h4 F2 g2 m2 m5, fun g => by omega⟩
      | cons x rest ih =>
        intro k hk gR hin hf
        have hk2 : k + rest.length + 1 = Et.length := by simp at hk; omega
        have c : ak_eM h4 (600 + k) x := gR 0 x rfl
        refine am_k260_66 ?_
        rw [F2 110 78 (by omega), n4, show am_w32 (600 + (k : Int)) = ((600 + k : Nat) : Int) from ak_wpp (a := 600) (by omega), ak_wj (show k < 1000000 by omega)]
        refine ⟨fun g => by omega, fun _ => ak_MI_deep (show d + 2 ≤ d + 4 by omega) (am_s261 (d := d) (by omega) c (fun z => ⟨fun g => absurd g (by decide), fun _ => ?_⟩) (fun z => ⟨fun _ => ?_, fun g => absurd rfl g⟩))⟩
        · have hf2 : ak_fnd (ak_f3 s nm st) Et = k := by
            rw [hf]
            show k + (if ak_f3 s nm st x = true then 0 else ak_fnd (ak_f3 s nm st) rest + 1) = _
            rw [if_pos z]
            rfl
          exact hit (by rw [eh]; exact decide_eq_true (by omega)) x h4 (hitv Et x (hin x (List.mem_cons_self ..)) (fun en he => hok en (Or.inr he)) z) F2 g2 m2 m5
        · refine ih (k + 1) (by omega) (ak_gM_tail gR) (fun en he => hin en (List.mem_cons_of_mem _ he)) ?_
          rw [hf]
          show k + (if ak_f3 s nm st x = true then 0 else ak_fnd (ak_f3 s nm st) rest + 1) = _
          rw [if_neg z]
          omega
    exact lp Et 0 (by omega) (ak_gM_fr Bt (fun q k _ _ _ _ => F2 q k (by omega))) (fun en he => he) (by omega)
  · subst hM
    have e1 : ak_us 0 sv E Et (ak_en T sh O s nm st) = (sv, E, Et) := if_pos (Or.inl rfl)
    have e2 : ak_us2 0 us = us := if_pos rfl
    have e3 : ak_us3 0 sv ms E Et (ak_en T sh O s nm st) = ms := if_pos (Or.inl rfl)
    have e5 : ak_us5 0 sv ts E (ak_en T sh O s nm st) = ts := if_pos rfl
    rw [e1, e2, e3, e5] at q
    refine am_s251 (d := d) W hO MT hob L hs hst (fun h3 l9 l10 L3 f3 => ?_)
    exact q h3 (ak_gM_fr B (fun q k _ _ _ _ => f3.1 q k (by omega) (by omega))) ((f3.1 _ _ (by omega) (by omega)).trans n1) ((f3.1 _ _ (by omega) (by omega)).trans n0) (ak_gM_fr Bt (fun q k _ _ _ _ => f3.1 q k (by omega) (by omega))) ((f3.1 _ _ (by omega) (by omega)).trans n4)
      ((f3.1 _ _ (by omega) (by omega)).trans n2) ((f3.1 _ _ (by omega) (by omega)).trans n3) ((f3.1 _ _ (by omega) (by omega)).trans n5) (f3.1 162 i (by omega) (by omega)) l9 l10 L3 ⟨fun q k a b c d' => f3.1 q k (by omega) b, f3.2⟩
end MUSE2
