/-! the calls next, change, astray -/
section ASK3
variable {e : ak_X3} {d ρ1 ρ2 u us S O B Mt n m NS : Nat} {ρ : List Nat} {T : Nat → List (Int × Int)} {sh : Nat → Nat} {h hc hm hc' hm' h0 m0 : ak_S} {E : Nat → List ak_E} {Et : List ak_E} {G : List (Int × Int × Int × Int)} {φ hr lv mt : Nat → Nat} {Us FR : List Nat} {b : Nat → Int} {z : Nat → Nat} {R : ak_S → ak_S → Prop} {x0 x1 x2 x3 : Int}
/-- a buffer filled with the first i items -/
theorem am_l315 {Q : Int → ak_S → Prop} {X : Nat → ak_S → Prop} {s : Nat} (M : ak_tM S T h) (hs : s < S) (hS : S ≤ 400) (hl : (T s).length < 12) (q : ∀ h', ak_bf (T s ++ [(x1, x2)]) h' → (∀ q k, ¬ (q = 110 ∧ k = 62) → q ≠ 152 → q ≠ 153 → h'.1 q k = h.1 q k) → h'.2 = h.2 → ak_MI e 1 d ρ 239 [am_r 110] h' Q (fun _ _ => False)) :
    ak_W0 e 1 d 315 ρ 62 [some (am_r 110), some (am_i (s : Int)), some (am_i x1), some (am_i x2), some (am_i 0)] [] (am_up h.1 110 62 ((T s).length : Int), h.2) (ak_qi Q X) := by
  obtain ⟨m1, m2⟩ := M.2 s hs
  have lp : ∀ (c i : Nat) (h1 : ak_S), i + c = (T s).length → h1.1 110 62 = ((T s).length : Int) → (∀ k x, k < i → (T s)[k]? = some x → h1.1 152 k = x.1 ∧ h1.1 153 k = x.2) → (∀ q k, ¬ (q = 110 ∧ k = 62) → q ≠ 152 → q ≠ 153 → h1.1 q k = h.1 q k) → h1.2 = h.2 →
      ak_W0 e 1 d 315 ρ 62 [some (am_r 110), some (am_i (s : Int)), some (am_i x1), some (am_i x2), some (am_i (i : Int))] [] h1 (ak_qi Q X) := by
    intro c
    induction c with
    | zero =>
      intro i h1 hi e1 e2 e3 e4
      refine am_k315_62 ?_
      rw [e1, ak_wj (show (T s).length < 1000000 by omega), ak_natn]
      refine ⟨fun _ => ⟨by omega, by omega, ?_⟩, fun g => absurd g (by omega)⟩
      have W : ∀ q k, ¬ (q = 152 ∧ k = (T s).length) → ¬ (q = 153 ∧ k = (T s).length) → ¬ (q = 110 ∧ k = 62) → am_up (am_up (am_up h1.1 152 (T s).length x1) 153 (T s).length x2) 110 62 (((T s).length + 1 : Nat) : Int) q k = h1.1 q k := fun q k a b c => (ak_up_out c).trans ((ak_up_out b).trans (ak_up_out a))
      have W1 : am_up (am_up (am_up h1.1 152 (T s).length x1) 153 (T s).length x2) 110 62 (((T s).length + 1 : Nat) : Int) 110 62 = (((T s).length + 1 : Nat) : Int) ∧ am_up (am_up (am_up h1.1 152 (T s).length x1) 153 (T s).length x2) 110 62 (((T s).length + 1 : Nat) : Int) 152 (T s).length = x1 ∧ am_up (am_up (am_up h1.1 152 (T s).length x1) 153 (T s).length x2) 110 62 (((T s).length + 1 : Nat) : Int) 153 (T s).length = x2 := by simp [am_up]
      refine ak_MI_imp (q (am_up (am_up (am_up h1.1 152 (T s).length x1) 153 (T s).length x2) 110 62 (((T s).length + 1 : Nat) : Int), h1.2) ⟨?_, fun k x hk => ?_⟩ (fun q k a b c => (W q k (by omega) (by omega) a).trans (e3 q k a b c)) e4) (fun _ _ z => z) (fun _ _ z => z)
      · rw [List.length_append]; exact W1.1
      · by_cases hk2 : k < (T s).length
        · rw [List.getElem?_append_left hk2] at hk
          have := e2 k x (by omega) hk
          exact ⟨(W 152 k (by omega) (by omega) (by omega)).trans this.1, (W 153 k (by omega) (by omega) (by omega)).trans this.2⟩
        · have hk3 := ak_get_none hk
          rw [List.length_append] at hk3
          have : k = (T s).length := by
            have : ([(x1, x2)] : List (Int × Int)).length = 1 := rfl
            omega
          subst this
          rw [ak_get_snoc] at hk
          cases hk
          exact W1.2
    | succ c ih =>
      intro i h1 hi e1 e2 e3 e4
      refine am_k315_62 ?_
      have ix : am_w32 (am_w32 (12 * (s : Int)) + (i : Int)) = ((12 * s + i : Nat) : Int) := by
        rw [ak_w (12 * (s : Int)) (by omega), ak_w _ (by omega)]
        omega
      rw [e1, ak_wj (show i < 1000000 by omega), ix, ak_natn, ak_natn]
      have lt : i < (T s).length := by omega
      have hy := List.getElem?_eq_getElem lt
      have y := m2 i _ hy
      refine ⟨fun g => absurd g (by omega), fun _ => ⟨by omega, by omega, by omega, by omega, ?_⟩⟩
      have W : ∀ q k, ¬ (q = 152 ∧ k = i) → ¬ (q = 153 ∧ k = i) → am_up (am_up h1.1 152 i (h1.1 148 (12 * s + i))) 153 i (h1.1 149 (12 * s + i)) q k = h1.1 q k := fun q k a b => (ak_up_out b).trans (ak_up_out a)
      have W1 : am_up (am_up h1.1 152 i (h1.1 148 (12 * s + i))) 153 i (h1.1 149 (12 * s + i)) 152 i = h1.1 148 (12 * s + i) ∧ am_up (am_up h1.1 152 i (h1.1 148 (12 * s + i))) 153 i (h1.1 149 (12 * s + i)) 153 i = h1.1 149 (12 * s + i) := by simp [am_up]
      refine ih (i + 1) (am_up (am_up h1.1 152 i (h1.1 148 (12 * s + i))) 153 i (h1.1 149 (12 * s + i)), h1.2) (by omega) ((W 110 62 (by omega) (by omega)).trans e1) (fun k x hk hx => ?_) (fun q k a b c => (W q k (by omega) (by omega)).trans (e3 q k a b c)) e4
      by_cases hki : k = i
      · subst hki
        rw [hy] at hx
        cases hx
        exact ⟨W1.1.trans ((e3 148 _ (by omega) (by omega) (by omega)).trans y.1), W1.2.trans ((e3 149 _ (by omega) (by omega) (by omega)).trans y.2)⟩
      · have := e2 k x (by omega) hx
        exact ⟨(W 152 k (by omega) (by omega)).trans this.1, (W 153 k (by omega) (by omega)).trans this.2⟩
  refine lp (T s).length 0 _ (by omega) (by simp [am_up]) (fun k x hk => absurd hk (Nat.not_lt_zero _)) (fun q k a b c => ak_up_out a) rfl
theorem am_ld182 (hu : u = 0 ∨ u = 1) (A : ak_all us hc hm) (L : ak_LD u us hc hm) (k1 : hc.1 1 8 = 1) (k2 : hm.1 110 4 = 1) (r : ak_rr u us R hc hm) : ak_cI e (d + 2) [ak_T u, ρ1, ρ2, ak_T u, ak_T u + 1] 182 315 [am_i x0, am_i x1, am_i x2] hc hm [(0, 1), (2, 2)] R := by
  have rr := ak_RR_of hu A L k1 k2 r
  obtain ⟨h0, m0, b, n, m, Mt, z, S, O, B, T, sh, E, Et, G, φ, hr, lv, mt, Us, FR, tx, ag, ⟨hO, wd⟩, st, rm, jn⟩ := L
  have n1 : hc.1 1 8 ≠ 0 := by omega
  have n2 : hm.1 110 4 ≠ 0 := by omega
  have go := fun hc' hm' => ak_rr_go (hc' := hc') (hm' := hm') hu A tx ag hO wd st rm jn k1 k2 r
  have ly := st.2.2.2.2.2
  have wd1 := ak_WD_no (x := 0) wd
  obtain ⟨w1, w2, w3, ⟨O2, w5, w6⟩, w7⟩ := wd
  have hS := w1.1.2.1
  clear tx ag st rm jn r w7
  refine ak_MI_of (Nat.le_of_ble_eq_true rfl) (am_k182_0 hu (am_s192 hu (fun _ => ?_) (fun g => absurd g n1)))
  rw [w2.1]
  refine am_s193 hu (fun a b => ?_) (fun a => ⟨2, by decide, ?_⟩)
  · obtain ⟨s, rfl⟩ : ∃ s : Nat, x0 = (s : Int) := ⟨x0.toNat, by omega⟩
    have hs : s < S := by omega
    obtain ⟨y1, y2⟩ := w3.2 s hs
    have yl := (w1.2.1 s hs).1
    have run : ∀ (v : Int), ((T s).length = 12 → v = -1) → (∀ t, t < S → T t = T s ++ [(x1, x2)] → v = (t : Int)) → ((∀ t, t < S → T t ≠ T s ++ [(x1, x2)]) → v = -1) → ak_MI e 1 (d + 2) [ak_T u, ρ1, ρ2, ak_T u, ak_T u + 1] 315 [am_r 110, am_i (s : Int), am_i x1, am_i x2] hm (fun b hm' => R hc hm' ∧ hm'.1 110 0 = 0 ∧ v = b) ak_F := by
      intro v q1 q2 q3
      refine ak_MI_of (Nat.le_of_ble_eq_true rfl) (am_k315_0 ⟨fun _ => ⟨fun g => absurd a (by omega), fun _ => ?_⟩, fun g => absurd g n2⟩)
      rw [w3.1, ak_natn, y1]
      refine ⟨fun _ => ⟨by omega, fun g => ⟨by omega, ?_⟩, fun g => ⟨rr.1, rfl, q1 (by omega)⟩⟩, fun g => absurd b (by omega)⟩
      refine am_l315 (h := ak_no hm 0) (s := s) wd1.2.2.1 hs hS (by omega) (fun h1 bf f1 f2 => ?_)
      have km : ak_kM hm h1 := ak_kM_trans (ak_kM_no (x := 0)) ⟨fun q k a b => f1 q k (by omega) (by omega) (by omega), fun q k => by rw [f2]⟩
      have fin := go hc h1 ak_kC_refl rfl km (ak_ly_fr (ak_ly_no (x := 0) ly) (fun q k g => f1 q k (by omega) (by omega) (by omega)))
      have z0 : h1.1 110 0 = 0 := (f1 110 0 (by omega) (by omega) (by omega))
      have M1 : ak_tM S T h1 := ⟨(f1 110 53 (by omega) (by omega) (by omega)).trans wd1.2.2.1.1, fun s hs => ⟨(f1 147 s (by omega) (by omega) (by omega)).trans (wd1.2.2.1.2 s hs).1, fun k x hx => ?_⟩⟩
      · exact am_s239 M1 hS (fun s hs => (w1.2.1 s hs).1) bf (by rw [List.length_append]; show (T s).length + 1 ≤ 12; omega) (fun t ht e => ⟨fin, z0, q2 t ht e⟩) (fun e => ⟨fin, z0, q3 e⟩)
      · have := (wd1.2.2.1.2 s hs).2 k x hx
        exact ⟨(f1 148 _ (by omega) (by omega) (by omega)).trans this.1, (f1 149 _ (by omega) (by omega) (by omega)).trans this.2⟩
    refine am_s159 w1 w2 hs (fun t ht he => run _ (fun g => ?_) (fun t' ht' he' => ?_) (fun g => absurd he (g t ht))) (fun he => run _ (fun _ => rfl) (fun t ht g => absurd g (he t ht)) (fun _ => rfl))
    · have := (w1.2.1 t ht).1
      rw [he, List.length_append, g] at this
      exact absurd this (show ¬ (12 + 1 ≤ 12) by decide)
    · rw [w1.2.2.2 t t' ht ht' (he.trans he'.symm)]
  · refine ak_MI_of (Nat.le_of_ble_eq_true rfl) (am_k315_0 ⟨fun _ => ⟨fun _ => am_s198 ⟨rr.2 2, rfl⟩, fun g => ?_⟩, fun g => absurd g n2⟩)
    rw [w3.1]
    exact ⟨fun g2 => absurd a (by omega), fun _ => am_s198 ⟨rr.2 2, rfl⟩⟩
end ASK3
