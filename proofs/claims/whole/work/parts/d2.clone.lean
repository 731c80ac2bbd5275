/-! an object copied -/
/-- what the copy O of o has: the one, the other -/
def ak_clC (O o : Nat) (h h' : ak_S) : Prop := h'.1 33 0 = ((O + 1 : Nat) : Int) ∧ h'.1 34 O = h.1 34 o ∧ (∀ k, k < 12 → h'.1 35 (12 * O + k) = h.1 35 (12 * o + k) ∧ h'.2.1 36 (12 * O + k) = h.2.1 36 (12 * o + k)) ∧
  (∀ q k, ¬ (q = 33 ∧ k = 0) → ¬ (q = 34 ∧ k = O) → ¬ (q = 35 ∧ 12 * O ≤ k ∧ k < 12 * O + 12) → h'.1 q k = h.1 q k) ∧ (∀ q k, ¬ (q = 36 ∧ 12 * O ≤ k ∧ k < 12 * O + 12) → h'.2.1 q k = h.2.1 q k) ∧ h'.2.2 = h.2.2
def ak_clM (O o n t : Nat) (h h' : ak_S) : Prop := h'.1 110 46 = ((O + 1 : Nat) : Int) ∧ h'.1 141 O = h.1 141 o ∧ h'.1 142 O = h.1 142 o ∧ (∀ k, k < n → (∀ q, 143 ≤ q → q ≤ 145 → h'.1 q (12 * O + k) = h.1 q (12 * o + k)) ∧ h'.2.1 146 (12 * O + k) = h.2.1 146 (12 * o + k)) ∧ h'.2.1 200 t = (O : Int) ∧
  (∀ q k, ¬ (q = 110 ∧ k = 46) → ¬ ((q = 141 ∨ q = 142) ∧ k = O) → ¬ (143 ≤ q ∧ q ≤ 145 ∧ 12 * O ≤ k ∧ k < 12 * O + 12) → h'.1 q k = h.1 q k) ∧ (∀ q k, ¬ (q = 146 ∧ 12 * O ≤ k ∧ k < 12 * O + 12) → ¬ (q = 200 ∧ k = t) → h'.2.1 q k = h.2.1 q k) ∧ h'.2.2 = h.2.2
section CLONE
variable {e : ak_X3} {d S O B Mt o t n : Nat} {ρ : List Nat} {T : Nat → List (Int × Int)} {sh : Nat → Nat} {h hc hm hc' hm' : ak_S} {X : Nat → ak_S → Prop}
theorem ak_w12k {r : Nat} (h : r < 10000) : am_w32 ((r : Int) * 12) = ((12 * r : Nat) : Int) := by rw [ak_w _ (by omega)]; omega
theorem am_s150 {Q : Int → ak_S → Prop} (ho : o < O) (hO : h.1 33 0 = (O : Int)) (hO2 : O ≤ 200) (q1 : O < 200 → ∀ h', ak_clC O o h h' → Q (O : Int) h') (q2 : O = 200 → Q (-1) h) : ak_MI e 0 (d + 2) ρ 150 [am_r 33, am_i (o : Int)] h Q X := by
  refine ak_MI_of (Nat.le_of_ble_eq_true rfl) (am_k150_0 (am_s149 (d := d) hO (fun hlt => ⟨fun g => by omega, fun _ => ?_⟩) (fun hge => ⟨fun _ => q2 (by omega), fun g => absurd g (by decide)⟩)))
  rw [ak_w12k (show o < 10000 by omega), ak_w12k (show O < 10000 by omega), ak_natn, ak_natn, ak_natn, ak_natn]
  have F : ∀ q k, ¬ (q = 33 ∧ k = 0) → ¬ (q = 34 ∧ k = O) → (ak_nwC h O).1 q k = h.1 q k := fun q k a b => (ak_up_out a).trans (ak_up_out b)
  have V : (ak_nwC h O).1 33 0 = ((O + 1 : Nat) : Int) := ak_up_at1
  have J : (ak_nwC h O).2 = h.2 := rfl
  have e34 := F 34 o (by omega) (by omega)
  rw [e34]
  generalize ak_nwC h O = h1 at F V J
  have G : ∀ q k, ¬ (q = 35 ∧ 12 * O ≤ k ∧ k < 12 * O + 12) → am_cpy (am_up h1.1 34 O (h.1 34 o)) 35 35 (12 * o) (12 * O) 12 q k = am_up h1.1 34 O (h.1 34 o) q k := by
    intro q k a
    unfold am_cpy
    by_cases hq : q = 35
    · rw [if_pos hq, if_neg (by omega)]
    · rw [if_neg hq]
  have GJ : ∀ q k, ¬ (q = 36 ∧ 12 * O ≤ k ∧ k < 12 * O + 12) → am_cpy h1.2.1 36 36 (12 * o) (12 * O) 12 q k = h1.2.1 q k := by
    intro q k a
    unfold am_cpy
    by_cases hq : q = 36
    · rw [if_pos hq, if_neg (by omega)]
    · rw [if_neg hq]
  have j1 : ∀ q k, h1.2.1 q k = h.2.1 q k := fun q k => by rw [J]
  refine ⟨by omega, by omega, by omega, by omega, q1 hlt _ ⟨?_, ?_, fun k hk => ⟨?_, ?_⟩, fun q k a b c => ?_, fun q k a => ?_, by rw [← J]⟩⟩
  · exact (G 33 0 (by omega)).trans ((ak_up_out (by omega)).trans V)
  · refine (G 34 O (by omega)).trans ?_
    simp [am_up]
  · show am_cpy (am_up h1.1 34 O (h.1 34 o)) 35 35 (12 * o) (12 * O) 12 35 (12 * O + k) = _
    unfold am_cpy
    rw [if_pos rfl, if_pos (by omega), show 12 * o + (12 * O + k - 12 * O) = 12 * o + k by omega, ak_up_out (by omega)]
    exact F _ _ (by omega) (by omega)
  · show am_cpy h1.2.1 36 36 (12 * o) (12 * O) 12 36 (12 * O + k) = _
    unfold am_cpy
    rw [if_pos rfl, if_pos (by omega), show 12 * o + (12 * O + k - 12 * O) = 12 * o + k by omega]
    exact j1 _ _
  · exact (G q k c).trans ((ak_up_out b).trans (F q k a b))
  · exact (GJ q k a).trans (j1 q k)
theorem am_s284 {Q : ak_S → Prop} (ht : h.1 110 127 = ((t + 1 : Nat) : Int)) (ht2 : t < 20000) (hO : h.1 110 46 = (O : Int)) (hO2 : O ≤ 200) (hn : n ≤ 12)
    (w1 : h.1 199 t = 2 → O < 200 → (o < O ∧ h.2.1 200 t = (o : Int) ∧ h.1 141 o = (n : Int)) ∧ ∀ h', ak_clM O o n t h h' → Q h')
    (w2 : h.1 199 t = 2 → O = 200 → ak_MV e 1 (d + 1) ρ 270 [am_r 110, am_i 8] h Q (fun _ _ => False)) (w3 : h.1 199 t ≠ 2 → ak_MV e 1 (d + 1) ρ 270 [am_r 110, am_i 6] h Q (fun _ _ => False)) :
    ak_MV e 1 (d + 2) ρ 284 [am_r 110] h Q X := by
  have bt : 0 ≤ (t : Int) ∧ (t : Int) < 20000 := by omega
  have ew : am_w32 (h.1 110 127 - 1) = (t : Int) := by rw [ht, ak_w _ (by omega)]; omega
  refine ak_MV_of (Nat.le_of_ble_eq_true rfl) (am_k284_0 ?_)
  rw [ew, ak_natn, hO]
  clear ew
  refine ⟨bt, bt, fun g => ⟨fun g2 => ?_, fun g2 => w2 g (by omega)⟩, w3⟩
  have hlt : O < 200 := by omega
  obtain ⟨⟨hoO, e200, en⟩, q⟩ := w1 g hlt
  refine am_s245 (d := d) hO hlt ?_
  rw [e200, ak_w (o : Int) (by omega), ak_natn, ak_natn]
  have F : ∀ q k, ¬ ((q = 141 ∨ q = 142) ∧ k = O) → ¬ (q = 110 ∧ k = 46) → (ak_nwM h O).1 q k = h.1 q k := fun q k a b => (ak_up_out b).trans ((ak_up_out (by omega)).trans (ak_up_out (by omega)))
  have V : (ak_nwM h O).1 110 46 = ((O + 1 : Nat) : Int) := ak_up_at1
  have J : (ak_nwM h O).2 = h.2 := rfl
  rw [F 141 o (by omega) (by omega), F 142 o (by omega) (by omega), en]
  generalize ak_nwM h O = h1 at F V J
  have bo : 0 ≤ (o : Int) ∧ (o : Int) < 200 := by omega
  have bO : 0 ≤ (O : Int) ∧ (O : Int) < 200 := by omega
  refine ⟨bo, bO, bo, bO, ?_⟩
  have lp : ∀ (c k : Nat) (h2 : ak_S), k + c = n → h2.1 141 O = (n : Int) → h2.1 142 O = h.1 142 o → h2.1 110 46 = ((O + 1 : Nat) : Int) → (∀ j, j < k → (∀ q, 143 ≤ q → q ≤ 145 → h2.1 q (12 * O + j) = h.1 q (12 * o + j)) ∧ h2.2.1 146 (12 * O + j) = h.2.1 146 (12 * o + j)) →
      (∀ q k, ¬ (q = 110 ∧ k = 46) → ¬ ((q = 141 ∨ q = 142) ∧ k = O) → ¬ (143 ≤ q ∧ q ≤ 145 ∧ 12 * O ≤ k ∧ k < 12 * O + 12) → h2.1 q k = h.1 q k) → (∀ q k, ¬ (q = 146 ∧ 12 * O ≤ k ∧ k < 12 * O + 12) → h2.2.1 q k = h.2.1 q k) → h2.2.2 = h.2.2 →
      ak_W0 e 1 (d + 1) 284 ρ 86 [some (am_r 110), none, some (am_i (o : Int)), some (am_i (O : Int)), some (am_i (k : Int))] [] h2 (ak_qv Q X) := by
    intro c
    induction c with
    | zero =>
      intro k h2 hk n1 n2 n3 cp f fJ f2
      have hk2 : k = n := hk
      subst hk2
      refine am_k284_86 ?_
      rw [ak_natn, n1, f 110 127 (by omega) (by omega) (by omega), show am_w32 (h.1 110 127 - 1) = (t : Int) from by rw [ht, ak_w _ (by omega)]; omega, ak_natn]
      have FJ : ∀ q k, ¬ (q = 200 ∧ k = t) → am_up h2.2.1 200 t (O : Int) q k = h2.2.1 q k := fun q k a => ak_up_out a
      refine ⟨bO, fun _ => ⟨bt, q (h2.1, am_up h2.2.1 200 t (O : Int), h2.2.2) ⟨n3, n1.trans en.symm, n2, fun j hj => ⟨(cp j hj).1, ?_⟩, by simp [am_up], f, fun q k a b => (FJ q k b).trans (fJ q k a), f2⟩⟩, fun z => by omega⟩
      exact (FJ _ _ (by omega)).trans (cp j hj).2
    | succ c ih =>
      intro k h2 hk n1 n2 n3 cp f fJ f2
      refine am_k284_86 ?_
      rw [ak_natn, n1, show am_w32 (am_w32 (12 * (o : Int)) + (k : Int)) = ((12 * o + k : Nat) : Int) from ak_wmul (c := 12) (by omega), show am_w32 (am_w32 (12 * (O : Int)) + (k : Int)) = ((12 * O + k : Nat) : Int) from ak_wmul (c := 12) (by omega), ak_natn, ak_natn, ak_wj (show k < 1000000 by omega), f 143 _ (by omega) (by omega) (by omega), f 144 _ (by omega) (by omega) (by omega), f 145 _ (by omega) (by omega) (by omega), fJ 146 _ (by omega)]
      have G : ∀ q j, ¬ (143 ≤ q ∧ q ≤ 145 ∧ j = 12 * O + k) → am_up (am_up (am_up h2.1 143 (12 * O + k) (h.1 143 (12 * o + k))) 144 (12 * O + k) (h.1 144 (12 * o + k))) 145 (12 * O + k) (h.1 145 (12 * o + k)) q j = h2.1 q j := fun q j a => (ak_up_out (by omega)).trans ((ak_up_out (by omega)).trans (ak_up_out (by omega)))
      have GJ : ∀ q j, ¬ (q = 146 ∧ j = 12 * O + k) → am_up h2.2.1 146 (12 * O + k) (h.2.1 146 (12 * o + k)) q j = h2.2.1 q j := fun q j a => ak_up_out a
      have G3 : ∀ q, 143 ≤ q → q ≤ 145 → am_up (am_up (am_up h2.1 143 (12 * O + k) (h.1 143 (12 * o + k))) 144 (12 * O + k) (h.1 144 (12 * o + k))) 145 (12 * O + k) (h.1 145 (12 * o + k)) q (12 * O + k) = h.1 q (12 * o + k) := by
        intro q a b
        have hq : q = 143 ∨ q = 144 ∨ q = 145 := by omega
        rcases hq with rfl | rfl | rfl <;> simp [am_up]
      have G4 : am_up h2.2.1 146 (12 * O + k) (h.2.1 146 (12 * o + k)) 146 (12 * O + k) = h.2.1 146 (12 * o + k) := by simp [am_up]
      refine ⟨bO, fun z => by omega, fun _ => ⟨by omega, by omega, by omega, by omega, by omega, by omega, by omega, by omega, ih (k + 1) (am_up (am_up (am_up h2.1 143 (12 * O + k) (h.1 143 (12 * o + k))) 144 (12 * O + k) (h.1 144 (12 * o + k))) 145 (12 * O + k) (h.1 145 (12 * o + k)), am_up h2.2.1 146 (12 * O + k) (h.2.1 146 (12 * o + k)), h2.2.2) (by omega) ((G _ _ (by omega)).trans n1) ((G _ _ (by omega)).trans n2) ((G _ _ (by omega)).trans n3) (fun j hj => ?_) (fun q j a b c => (G q j (by omega)).trans (f q j a b c)) (fun q j a => (GJ q j (by omega)).trans (fJ q j a)) f2⟩⟩
      by_cases hjk : j = k
      · subst hjk
        exact ⟨G3, G4⟩
      · exact ⟨fun q a b => (G q _ (by omega)).trans ((cp j (by omega)).1 q a b), (GJ _ _ (by omega)).trans (cp j (by omega)).2⟩
  have G0 : ∀ q k, ¬ ((q = 141 ∨ q = 142) ∧ k = O) → am_up (am_up h1.1 141 O (n : Int)) 142 O (h.1 142 o) q k = h1.1 q k := fun q k a => (ak_up_out (by omega)).trans (ak_up_out (by omega))
  have j1 : ∀ q k, h1.2.1 q k = h.2.1 q k := fun q k => by rw [J]
  exact lp n 0 (am_up (am_up h1.1 141 O (n : Int)) 142 O (h.1 142 o), h1.2) (by omega) (by simp [am_up]) (by simp [am_up]) ((G0 _ _ (by omega)).trans V) (fun j hj => absurd hj (Nat.not_lt_zero _)) (fun q k a b c => (G0 q k b).trans (F q k b a)) (fun q k a => j1 q k) (by rw [← J])
theorem ak_WD_clone (w : ak_WD S O B Mt T sh hc hm) (hO : O < 200) (ho : o < O) (c : ak_clC O o hc hc') (m : ak_clM O o (T (sh o)).length t hm hm') : ak_WD S (O + 1) B Mt T (ak_sh sh O (sh o)) hc' hm' := by
  obtain ⟨w1, w2, w3, ⟨w4, w5, w6⟩, w7⟩ := w
  obtain ⟨c1, c2, c3, c4, c5, c6⟩ := c
  obtain ⟨m1, m2, m3, m4, m5, m6, m7, m8⟩ := m
  have hv : ∀ (x : Int × Int) (a b c d : Int), ak_hv O B Mt x a b c d → ak_hv (O + 1) B Mt x a b c d := fun x a b c d z => by
    refine ⟨fun g => ?_, z.2⟩
    obtain ⟨z1, z2, z3, z4, z5, z6⟩ := z.1 g
    exact ⟨z1, z2, z3, fun g => by have := z4 g; omega, z5, z6⟩
  obtain ⟨o1, o2, o3, o4, o5⟩ := w7 o ho
  have ol := (w1.2.1 (sh o) o1).1
  refine ⟨ak_Tok_mono w1 (by omega), ak_tC_out w2 (fun q k hq => c4 q k (by omega) (by omega) (by omega)), ⟨(m6 _ _ (by omega) (by omega) (by omega)).trans w3.1, fun s hs => ⟨(m6 _ _ (by omega) (by omega) (by omega)).trans (w3.2 s hs).1, fun k x hx => ?_⟩⟩, ⟨by omega, c1, m1⟩, fun i hi => ?_⟩
  · rw [m6 148 _ (by omega) (by omega) (by omega), m6 149 _ (by omega) (by omega) (by omega)]
    exact (w3.2 s hs).2 k x hx
  · by_cases hio : i = O
    · subst hio
      have es : ak_sh sh i (sh o) i = sh o := if_pos rfl
      rw [es]
      refine ⟨o1, c2.trans o2, m3.trans o3, ⟨m2.trans o4.1, fun k x hx => ?_⟩, fun k x hx => ?_⟩
      · have hk := ak_get_none hx
        rw [(m4 k hk).1 143 (by omega) (by omega), (m4 k hk).1 144 (by omega) (by omega)]
        exact o4.2 k x hx
      · have hk := ak_get_none hx
        rw [(c3 k (by omega)).1, (c3 k (by omega)).2, (m4 k hk).1 145 (by omega) (by omega), (m4 k hk).2]
        exact hv _ _ _ _ _ (o5 k x hx)
    · have es : ak_sh sh O (sh o) i = sh i := if_neg hio
      rw [es]
      obtain ⟨v1, v2, v3, v4, v5⟩ := w7 i (by omega)
      have hl := (w1.2.1 (sh i) v1).1
      refine ⟨v1, (c4 _ _ (by omega) (by omega) (by omega)).trans v2, (m6 _ _ (by omega) (by omega) (by omega)).trans v3, ⟨(m6 _ _ (by omega) (by omega) (by omega)).trans v4.1, fun k x hx => ?_⟩, fun k x hx => ?_⟩
      · have hk := ak_get_none hx
        rw [m6 143 _ (by omega) (by omega) (by omega), m6 144 _ (by omega) (by omega) (by omega)]
        exact v4.2 k x hx
      · have hk := ak_get_none hx
        rw [c4 35 _ (by omega) (by omega) (by omega), c5 36 _ (by omega), m6 145 _ (by omega) (by omega) (by omega), m7 146 _ (by omega) (by omega)]
        exact hv _ _ _ _ _ (v5 k x hx)
end CLONE
