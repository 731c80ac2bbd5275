/-! the run: a send, up to what it finds -/
section SND2
variable {e : ak_X3} {d ρ1 ρ2 u us n N S O B Mt o i k A z y T0 T1 a f' hf : Nat} {ρ : List Nat} {T : Nat → List (Int × Int)} {sh : Nat → Nat} {h h1 h2 hc hm : ak_S} {s w nm pl ho stt : Int} {X : Nat → ak_S → Prop}
theorem ak_is (us2 : us < 2) (hi : i < 150) : am_w32 (am_w32 (150 * (us : Int)) + (i : Int)) = ((150 * us + i : Nat) : Int) := by
  rw [ak_w (150 * (us : Int)) (by omega), ak_w _ (by omega)]
  omega
theorem ak_im {m : Nat} (us2 : us < 2) (hm : m < 40) : am_w32 (am_w32 (40 * (us : Int)) + (m : Int)) = ((40 * us + m : Nat) : Int) := by
  rw [ak_w (40 * (us : Int)) (by omega), ak_w _ (by omega)]
  omega
theorem ak_an (hA : A + n + 1 ≤ 12600) : am_w32 (am_w32 (((A + n + 1 : Nat) : Int) - (n : Int)) - 1) = (A : Int) := by
  rw [ak_w (((A + n + 1 : Nat) : Int) - (n : Int)) (by omega), ak_w _ (by omega)]
  omega
theorem ak_an2 (hT : T0 + 1 + n ≤ 12600) : am_w32 (am_w32 (((T0 + 1 + n : Nat) : Int) - 1) - (n : Int)) = (T0 : Int) := by
  rw [ak_w (((T0 + 1 + n : Nat) : Int) - 1) (by omega), ak_w _ (by omega)]
  omega
theorem ak_ifA : (if 0 < (A : Int) then (A : Int) else 0) = (A : Int) := by split <;> omega
/-- the one -/
theorem am_c87 {Q : Int → ak_S → Prop} (hu : u = 0 ∨ u = 1) (h10 : h.1 32 10 = ((A + n + 1 : Nat) : Int)) (hA : A + n + 1 ≤ 9060) (hn : n ≤ 4) (r1 : h.1 108 A = s) (r2 : h.2.1 109 A = w) (hO : h.1 33 0 = (O : Int)) (hO2 : O ≤ 200) (vk : ak_vok O B s w) (eo : ak_ofv s w = (o : Int)) (o2 : o < 200) (hi : i < 150) (hnm : h.1 (ak_T u + 16) i = nm) (h34 : h.1 34 o = (a : Int))
    (use : ∀ (Q : ak_S → Prop) (X : Nat → ak_S → Prop), Q h2 → ak_MV e 0 (d + 4) (ak_rc u ρ1 ρ2) 111 [am_r 44, am_r 33, am_i (i : Int), am_i nm, am_i (a : Int), am_i stt] h Q X) (p1 : h2.1 44 7 = pl) (p2 : h2.1 44 8 = ho) (hM : h2.1 (ak_T u) 4 = (Mt : Int)) (hM2 : Mt ≤ 40)
    (nf : pl < 0 → ak_MI e 0 (d + 4) (ak_rc u ρ1 ρ2) 90 [am_r 32, am_i nm, am_i (n : Int), am_i (o : Int)] h2 Q (fun _ _ => False))
    (fd : 0 ≤ pl → ∃ z : Nat, z < 2400 ∧ (∀ (Q : Int → ak_S → Prop) (X : Nat → ak_S → Prop), Q (z : Int) h2 → ak_MI e 0 (d + 4) (ak_rc u ρ1 ρ2) 88 [am_r 32, am_i (o : Int), am_i nm, am_i pl, am_i ho] h2 Q X) ∧
      ((h2.1 35 z ≠ 4 ∧ (n = 0 → ak_MV e 0 (d + 4) (ak_rc u ρ1 ρ2) 73 [am_r 32, am_i (h2.1 35 z), am_l (h2.2.1 36 z)] (am_up h2.1 32 10 (A : Int), h2.2) (fun h' => Q (-1) h') (fun _ _ => False)) ∧ (n ≠ 0 → ak_MV e 0 (d + 4) (ak_rc u ρ1 ρ2) 77 [am_r 32, am_i 2, am_i 0, am_l 0] h2 (fun h' => Q (-1) h') (fun _ _ => False))) ∨
       (h2.1 35 z = 4 ∧ ∃ m : Nat, m < Mt ∧ h2.2.1 36 z = (m : Int) ∧ (h2.1 (ak_T u + 12) m = (n : Int) → Q (m : Int) (am_up (am_up (am_up (am_up h2.1 32 13 (n : Int)) 32 14 pl) 32 15 ho) 32 16 0, h2.2)) ∧ (h2.1 (ak_T u + 12) m ≠ (n : Int) → ak_MV e 0 (d + 4) (ak_rc u ρ1 ρ2) 77 [am_r 32, am_i 2, am_i 0, am_l 0] h2 (fun h' => Q (-1) h') (fun _ _ => False))))) : ak_MI e 0 (d + 5) (ak_rc u ρ1 ρ2) 87 [am_r 32, am_i (i : Int), am_i (n : Int), am_i stt] h Q X := by
  refine ak_MI_of (Nat.le_of_ble_eq_true rfl) (am_k87_0 hu ?_)
  rw [h10, ak_an (show A + n + 1 ≤ 12600 by omega), ak_ifA, ak_natn, r1, r2]
  refine ⟨by omega, by omega, am_s152 (d := d + 2) hO hO2 vk ?_⟩
  rw [eo]
  rw [ak_natn, ak_natn, hnm, h34]
  refine ⟨by omega, by omega, use _ _ ?_⟩
  rw [p1, p2]
  refine ⟨fun g => ?_, nf⟩
  obtain ⟨z, hz, r88, fz⟩ := fd g
  refine r88 _ _ (am_s89 (d := d + 3) hu hz hM hM2 (fun g4 => ?_) (fun g4 => ?_))
  · rcases fz with ⟨_, f0, f1⟩ | ⟨f, _⟩
    · refine ⟨fun z => absurd z (by decide), fun _ => ⟨fun g0 => am_k87_166 hu ⟨fun _ => f1 (by omega), fun z => absurd z (by decide)⟩, fun g0 => ?_⟩⟩
      rw [ak_natn]
      exact ⟨by omega, by omega, f0 (by omega)⟩
    · exact absurd f g4
  · rcases fz with ⟨f, _⟩ | ⟨_, m, m1, m2, m3, m4⟩
    · exact absurd g4 f
    · refine ⟨m, m1, m2, fun _ => am_k87_166 hu ⟨fun z => absurd z (by omega), fun _ => ?_⟩, fun z => absurd z (by omega)⟩
      rw [ak_natn, p1, p2]
      exact ⟨by omega, fun g5 => ⟨Or.inl rfl, m3 g5⟩, m4⟩
/-- the other's arguments -/
theorem am_l366 (hn : n ≤ 4) (hf2 : f' < 564) (hT : T1 + n < 20000) : ∀ (b k0 : Nat) (h : ak_S), k0 + b = n → ∃ h' : ak_S, (∀ k, k0 ≤ k → k < n → h'.1 184 (12 * f' + k) = h.1 199 (T1 + k) ∧ h'.2.1 185 (12 * f' + k) = h.2.1 200 (T1 + k)) ∧ (∀ q k, ¬ (q = 184 ∧ 12 * f' + k0 ≤ k ∧ k < 12 * f' + n) → h'.1 q k = h.1 q k) ∧ (∀ q k, ¬ (q = 185 ∧ 12 * f' + k0 ≤ k ∧ k < 12 * f' + n) → h'.2.1 q k = h.2.1 q k) ∧ h'.2.2 = h.2.2 ∧
    ∀ (Q : ak_S → Prop) (X : Nat → ak_S → Prop), Q h' → ak_W0 e 1 (d + 1) 288 ρ 366 [some (am_r 110), none, some (am_i (n : Int)), none, none, none, none, none, none, none, some (am_i (T1 : Int)), none, none, none, none, none, some (am_i (f' : Int)), some (am_i (k0 : Int))] [] h (ak_qv Q X) := by
  intro b
  induction b with
  | zero =>
    intro k0 h hk
    exact ⟨h, fun k a b => absurd b (by omega), fun _ _ _ => rfl, fun _ _ _ => rfl, rfl, fun Q X q => am_k288_366 ⟨fun _ => q, fun z => absurd z (by omega)⟩⟩
  | succ b ih =>
    intro k0 h hk
    have KO : ∀ q k, ¬ (q = 184 ∧ k = 12 * f' + k0) → (ak_kwM h (12 * f' + k0) (h.1 199 (T1 + k0)) (h.2.1 200 (T1 + k0))).1 q k = h.1 q k := fun q k c1 => ak_up_out1 c1
    have KJ : ∀ q k, ¬ (q = 185 ∧ k = 12 * f' + k0) → (ak_kwM h (12 * f' + k0) (h.1 199 (T1 + k0)) (h.2.1 200 (T1 + k0))).2.1 q k = h.2.1 q k := fun q k c1 => ak_up_out c1
    have KV : (ak_kwM h (12 * f' + k0) (h.1 199 (T1 + k0)) (h.2.1 200 (T1 + k0))).1 184 (12 * f' + k0) = h.1 199 (T1 + k0) ∧ (ak_kwM h (12 * f' + k0) (h.1 199 (T1 + k0)) (h.2.1 200 (T1 + k0))).2.1 185 (12 * f' + k0) = h.2.1 200 (T1 + k0) := by
      unfold ak_kwM
      simp [am_up]
    have KK : (ak_kwM h (12 * f' + k0) (h.1 199 (T1 + k0)) (h.2.1 200 (T1 + k0))).2.2 = h.2.2 := rfl
    have go : ∀ (Q : ak_S → Prop) (X : Nat → ak_S → Prop), ak_W0 e 1 (d + 1) 288 ρ 366 [some (am_r 110), none, some (am_i (n : Int)), none, none, none, none, none, none, none, some (am_i (T1 : Int)), none, none, none, none, none, some (am_i (f' : Int)), some (am_i ((k0 + 1 : Nat) : Int))] [] (ak_kwM h (12 * f' + k0) (h.1 199 (T1 + k0)) (h.2.1 200 (T1 + k0))) (ak_qv Q X) → ak_W0 e 1 (d + 1) 288 ρ 366 [some (am_r 110), none, some (am_i (n : Int)), none, none, none, none, none, none, none, some (am_i (T1 : Int)), none, none, none, none, none, some (am_i (f' : Int)), some (am_i (k0 : Int))] [] h (ak_qv Q X) := fun Q X q => by
      refine am_k288_366 ⟨fun z => absurd z (by omega), fun _ => ⟨fun z => absurd z (by omega), fun _ => ?_⟩⟩
      rw [show am_w32 ((T1 : Int) + (k0 : Int)) = ((T1 + k0 : Nat) : Int) from by rw [ak_w _ (by omega)]; omega, ak_natn, ak_wj (show k0 < 1000000 by omega)]
      exact ⟨by omega, by omega, am_s274 (d := d) hf2 (show k0 < 12 by omega) q⟩
    generalize ak_kwM h (12 * f' + k0) (h.1 199 (T1 + k0)) (h.2.1 200 (T1 + k0)) = h3 at KO KJ KV KK go
    obtain ⟨h', a1, a2, a3, a4, a5⟩ := ih (k0 + 1) h3 (by omega)
    refine ⟨h', fun k c1 c2 => ?_, fun q k c1 => (a2 q k (by omega)).trans (KO q k (by omega)), fun q k c1 => (a3 q k (by omega)).trans (KJ q k (by omega)), a4.trans KK, fun Q X q => go Q X (a5 Q X q)⟩
    by_cases hkk : k = k0
    · subst hkk
      rw [a2 _ _ (by omega), a3 _ _ (by omega)]
      exact KV
    · obtain ⟨b1, b2⟩ := a1 k (by omega) c2
      rw [b1, b2, KO _ _ (by omega), KJ _ _ (by omega)]
      exact ⟨rfl, rfl⟩
/-- the other -/
theorem am_m288 {Q : ak_S → Prop} {kk : Bool} (he : h1 = (am_up h.1 110 104 ((N + 1 : Nat) : Int), h.2)) (hN : h.1 110 104 = (N : Int)) (hN2 : N < 4000) (h105 : h.1 110 105 = -1) (y18 : y < 18000) (h114 : h.1 114 y = if kk = true then 8 else 9) (h117 : h.1 117 y = (n : Int)) (h118 : h.1 118 y = (i : Int)) (hi : i < 150) (hn : n ≤ 4) (h102 : h.1 110 102 = (f' : Int)) (hf2 : f' < 564) (h178 : h.1 178 f' = (hf : Int)) (hf3 : hf < 564)
    (eT : T1 = if kk = true then T0 else T0 + 1) (h127 : h.1 110 127 = ((T1 + n : Nat) : Int)) (hT : T1 + n ≤ 9060) (hs : (if kk = true then h.1 180 hf else h.1 199 T0) = s) (hw : (if kk = true then h.2.1 181 hf else h.2.1 200 T0) = w) (hst : (if kk = true then h.1 182 hf else 0) = stt) (hO2 : O ≤ 200) (vk : ak_vok O B s w) (eo : ak_ofv s w = (o : Int)) (o2 : o < 200) (h142 : h.1 142 o = (a : Int))
    (use : ∀ (Q : ak_S → Prop) (X : Nat → ak_S → Prop), Q h2 → ak_MV e 1 (d + 5) ρ 260 [am_r 110, am_i (i : Int), am_i (a : Int), am_i stt] h1 Q X) (p1 : h2.1 110 69 = pl) (p2 : h2.1 110 70 = ho) (g127 : h2.1 110 127 = ((T1 + n : Nat) : Int)) (g118 : h2.1 118 y = (i : Int)) (g3 : h2.1 110 3 = (us : Int)) (us2 : us < 2) (gnm : h2.1 129 (150 * us + i) = nm)
    (nf : pl < 0 → ak_MV e 1 (d + 5) ρ 290 [am_r 110, am_i (y : Int), am_i (o : Int), am_i s, am_l w, am_i (n : Int), am_i (T0 : Int)] h2 Q (fun _ _ => False))
    (fd : 0 ≤ pl → ∃ ih z : Nat, (if pl = 0 then (o : Int) else ho) = (ih : Int) ∧ z < 2400 ∧ (∀ (Q : Int → ak_S → Prop) (X : Nat → ak_S → Prop), Q (z : Int) h2 → ak_MI e 1 (d + 5) ρ 238 [am_r 110, am_i (ih : Int), am_i nm, am_i 0] h2 Q X) ∧
      ((h2.1 143 z = 0 ∧ (n = 0 → ak_MV e 1 (d + 5) ρ 265 [am_r 110, am_i (h2.1 145 z), am_l (h2.2.1 146 z)] (am_up h2.1 110 127 (T0 : Int), h2.2) Q (fun _ _ => False)) ∧ (n ≠ 0 → ak_MV e 1 (d + 5) ρ 270 [am_r 110, am_i 2] h2 Q (fun _ _ => False))) ∨
       (h2.1 143 z = 1 ∧ ∃ m : Nat, m < 40 ∧ h2.2.1 146 z = (m : Int) ∧ (h2.1 126 (40 * us + m) = (n : Int) → ak_MI e 1 (d + 5) ρ 275 [am_r 110, am_i (m : Int), am_i s, am_l w, am_i pl, am_i ho] (am_up h2.1 110 127 (T0 : Int), h2.2) (fun v2 h' => ak_W0 e 1 (d + 5) 288 ρ 366 [some (am_r 110), none, some (am_i (n : Int)), none, none, none, none, none, none, none, some (am_i (T1 : Int)), none, none, none, none, none, some (am_i v2), some (am_i 0)] [] h' (ak_qv Q X)) (fun _ _ => False)) ∧
         (h2.1 126 (40 * us + m) ≠ (n : Int) → ak_MV e 1 (d + 5) ρ 270 [am_r 110, am_i 2] h2 Q (fun _ _ => False))))) : ak_MV e 1 (d + 6) ρ 288 [am_r 110, am_i (y : Int)] h Q X := by
  have H1 : ∀ q k, ¬ (q = 110 ∧ k = 104) → h1.1 q k = h.1 q k := fun q k a => by rw [he]; exact ak_up_out1 a
  have H2 : h1.2 = h.2 := by rw [he]
  have bo : 0 ≤ (o : Int) ∧ (o : Int) < 200 := by omega
  have by' : 0 ≤ (y : Int) ∧ (y : Int) < 18000 := by omega
  have bf : 0 ≤ (f' : Int) ∧ (f' : Int) < 564 := by omega
  have bhf : 0 ≤ (hf : Int) ∧ (hf : Int) < 564 := by omega
  have bis : 0 ≤ ((150 * us + i : Nat) : Int) ∧ ((150 * us + i : Nat) : Int) < 300 := by omega
  -- from the use on
  have L212 : ∀ ih : Nat, (if pl = 0 then (o : Int) else ho) = (ih : Int) → 0 ≤ pl → ∀ y0 : Int, y0 = (ih : Int) → ak_W0 e 1 (d + 5) 288 ρ 212 [some (am_r 110), some (am_i (y : Int)), some (am_i (n : Int)), none, none, some (am_i s), some (am_l w), none, none, none, some (am_i (T1 : Int)), some (am_i (T0 : Int)), none, none, none, none, none, none] [am_i y0] h2 (ak_qv Q X) := by
    intro ih' hih g0 y0 hy0
    obtain ⟨ih, z, e1, z2, r, fz⟩ := fd g0
    have : ih' = ih := by omega
    subst this
    subst hy0
    refine am_k288_212 ?_
    rw [ak_natn, g118, g3, ak_is us2 hi, ak_natn, gnm]
    refine ⟨by', bis, r _ _ ?_⟩
    rw [ak_natn]
    have bz : 0 ≤ (z : Int) ∧ (z : Int) < 2400 := by omega
    rcases fz with ⟨f0, f1, f2⟩ | ⟨f0, m, m1, m2, f1, f2⟩
    · refine ⟨bz, fun c => absurd f0 c, fun _ => am_k288_258 ⟨fun c => absurd c (by decide), fun _ => am_k288_277 ⟨fun c => absurd c (by decide), fun _ => am_k288_303 ⟨fun c => ⟨fun c => absurd c (by decide), fun _ => ?_⟩, fun c => f2 (fun c' => c (by omega))⟩⟩⟩⟩
      rw [ak_natn]
      exact ⟨bz, bz, f1 (by omega)⟩
    · refine ⟨bz, fun _ => am_k288_258 ⟨fun _ => ?_, fun c => absurd rfl c⟩, fun c => absurd c (by omega)⟩
      rw [ak_natn, m2, ak_w (m : Int) (by omega)]
      refine ⟨bz, am_k288_277 ⟨fun _ => ?_, fun c => absurd rfl c⟩⟩
      rw [g3, ak_im us2 m1, ak_natn]
      refine ⟨by omega, am_k288_303 ⟨fun c => ⟨fun _ => ?_, fun c => absurd rfl c⟩, f2⟩⟩
      rw [p1, p2]
      exact f1 c
  have L172 : ak_W0 e 1 (d + 5) 288 ρ 172 [some (am_r 110), some (am_i (y : Int)), some (am_i (n : Int)), none, none, some (am_i s), some (am_l w), none, some (am_i (o : Int)), none, some (am_i (T1 : Int)), none, none, none, none, none, none, none] [am_i (T0 : Int)] h2 (ak_qv Q X) := by
    refine am_k288_172 ?_
    rw [p1, p2]
    refine ⟨fun g => ?_, nf⟩
    obtain ⟨ih, z, e1, _⟩ := fd g
    refine ⟨fun g0 => L212 ih e1 g _ ?_, fun g0 => L212 ih e1 g _ ?_⟩
    · rw [if_neg g0] at e1; exact e1
    · rw [if_pos g0] at e1; exact e1
  have L148 : ∀ x3 : Int, x3 = (if kk = true then 1 else 0) → ∀ y0 : Int, y0 = stt → ak_W0 e 1 (d + 5) 288 ρ 148 [some (am_r 110), some (am_i (y : Int)), some (am_i (n : Int)), some (am_i x3), none, some (am_i s), some (am_l w), none, some (am_i (o : Int)), none, none, none, none, none, none, none, none, none] [am_i y0, am_i (a : Int), am_i (i : Int), am_r 110] h1 (ak_qv Q X) := by
    intro x3 hx3 y0 hy0
    subst hy0
    refine am_k288_148 (use _ _ ?_)
    rw [g127, show am_w32 (((T1 + n : Nat) : Int) - (n : Int)) = (T1 : Int) from by rw [ak_w _ (by omega)]; omega]
    cases kk with
    | true =>
      have e1 : T1 = T0 := eT
      refine ⟨fun z => absurd z (by rw [hx3]; decide), fun _ => ?_⟩
      rw [show (T1 : Int) = (T0 : Int) from by omega] at L172 ⊢
      exact L172
    | false =>
      have e1 : T1 = T0 + 1 := eT
      refine ⟨fun _ => ?_, fun z => absurd (show x3 = 0 from hx3) z⟩
      rw [show am_w32 ((T1 : Int) - 1) = (T0 : Int) from by rw [ak_w _ (by omega)]; omega]
      exact L172
  refine ak_MV_of (Nat.le_of_ble_eq_true rfl) (am_k288_0 (am_s267 (d := d + 4) (n := N) hN (by omega) (fun _ => ?_) (fun z => absurd z (by omega))))
  rw [← he, H1 110 105 (by omega), h105, ak_natn, H1 114 y (by omega), H1 117 y (by omega), h114, h117]
  refine ⟨fun _ => ⟨by', by', ?_⟩, fun z => absurd z (by decide)⟩
  cases kk with
  | true =>
    have e1 : T1 = T0 := eT
    refine ⟨fun z => absurd rfl z, fun _ => am_k288_35 ?_⟩
    rw [H1 110 102 (by omega), h102, ak_natn, H1 178 _ (by omega), h178, ak_natn, H1 180 _ (by omega), show h.1 180 hf = s from hs]
    refine ⟨bf, fun z => absurd z (by decide), fun _ => ⟨bhf, am_k288_74 ⟨fun z => absurd z (by decide), fun _ => ?_⟩⟩⟩
    rw [ak_natn, H2, show h.2.1 181 hf = w from hw]
    refine ⟨bhf, am_k288_103 (am_s280v (d := d + 4) hO2 vk ?_)⟩
    rw [eo]
    rw [ak_natn, ak_natn, H1 142 _ (by omega), h142, H1 118 _ (by omega), h118, ak_natn, H1 182 _ (by omega)]
    exact ⟨bo, by', fun z => absurd z (by decide), fun _ => ⟨bhf, L148 1 rfl _ hst⟩⟩
  | false =>
    have e1 : T1 = T0 + 1 := eT
    refine ⟨fun _ => am_k288_35 ?_, fun z => absurd z (by decide)⟩
    rw [H1 110 102 (by omega), h102, H1 110 127 (by omega), h127, e1, ak_an2 (show T0 + 1 + n ≤ 12600 by omega), ak_natn, ak_natn, H1 178 _ (by omega), h178, H1 199 _ (by omega), show h.1 199 T0 = s from hs]
    refine ⟨bf, fun _ => ⟨by omega, am_k288_74 ⟨fun _ => ?_, fun z => absurd rfl z⟩⟩, fun z => absurd rfl z⟩
    rw [H1 110 127 (by omega), h127, e1, ak_an2 (show T0 + 1 + n ≤ 12600 by omega), ak_natn, H2, show h.2.1 200 T0 = w from hw]
    refine ⟨by omega, am_k288_103 (am_s280v (d := d + 4) hO2 vk ?_)⟩
    rw [eo]
    rw [ak_natn, ak_natn, H1 142 _ (by omega), h142, H1 118 _ (by omega), h118]
    exact ⟨bo, by', fun _ => L148 0 rfl _ hst, fun z => absurd rfl z⟩
end SND2
