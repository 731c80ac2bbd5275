/-! the one goes along a way -/
def ak_stk (S : Nat) (T : Nat → List (Int × Int)) (h : ak_S) : List (List (Int × Int)) → Prop
  | [] => True
  | l :: st => (∃ s i : Nat, s < S ∧ i ≤ (T s).length ∧ h.1 42 st.length = (s : Int) ∧ h.1 43 st.length = (i : Int) ∧ l = (T s).drop i) ∧ ak_stk S T h st
def ak_vis (_O : Nat) (h : ak_S) (v : Nat → Bool) : Prop := ∀ o, o < 200 → ak_lb (h.2.1 41 (o / 64)) (o % 64) = v o
def ak_wk (S O : Nat) (T : Nat → List (Int × Int)) (h : ak_S) (st : List (List (Int × Int))) (v : Nat → Bool) : Prop := h.1 33 14 = (st.length : Int) ∧ ak_stk S T h st ∧ ak_vis O h v ∧ st.length + ak_un v O ≤ O + 1
/-- what going along a way changes -/
def ak_wkF (h h' : ak_S) : Prop := (∀ q k, ¬ (q = 33 ∧ k = 14) → ¬ (42 ≤ q ∧ q ≤ 43) → h'.1 q k = h.1 q k) ∧ (∀ q k, q ≠ 41 → h'.2.1 q k = h.2.1 q k) ∧ h'.2.2 = h.2.2
theorem ak_bt_raw {w : Int} {o : Nat} (h : o < 200) : (Int64.ofInt ((Int64.ofInt w >>> ((Int32.ofInt ((Int32.ofInt (o : Int) &&& Int32.ofInt 63).toInt)).toInt64 &&& 63)).toInt) &&& Int64.ofInt 1).toInt = if ak_lb w (o % 64) = true then 1 else 0 := ak_bt_eq h
theorem ak_bs_raw {w o : Int} : (Int64.ofInt w ||| Int64.ofInt ((Int64.ofInt 1 <<< ((Int32.ofInt ((Int32.ofInt o &&& Int32.ofInt 63).toInt)).toInt64 &&& 63)).toInt)).toInt = ak_bs w o := rfl
section NEXT
variable {e : ak_X3} {d S O : Nat} {ρ : List Nat} {T : Nat → List (Int × Int)} {sh : Nat → Nat} {h h' h2 : ak_S} {v : Nat → Bool} {st : List (List (Int × Int))} {X : Nat → ak_S → Prop}
theorem ak_wkF_refl : ak_wkF h h := ⟨fun _ _ _ _ => rfl, fun _ _ _ => rfl, rfl⟩
theorem ak_wkF_trans (w : ak_wkF h h') (w2 : ak_wkF h' h2) : ak_wkF h h2 := ⟨fun q k a b => (w2.1 q k a b).trans (w.1 q k a b), fun q k a => (w2.2.1 q k a).trans (w.2.1 q k a), w2.2.2.trans w.2.2⟩
theorem ak_stk_fr : ∀ {st : List (List (Int × Int))}, ak_stk S T h st → (∀ q k, 42 ≤ q → q ≤ 43 → k < st.length → h'.1 q k = h.1 q k) → ak_stk S T h' st := by
  intro st
  induction st with
  | nil => intro _ _; trivial
  | cons l st ih =>
    intro w f
    obtain ⟨⟨s, i, a1, a2, a3, a4, a5⟩, w2⟩ := w
    have hl : st.length < (l :: st).length := by simp
    exact ⟨⟨s, i, a1, a2, (f 42 _ (by omega) (by omega) hl).trans a3, (f 43 _ (by omega) (by omega) hl).trans a4, a5⟩, ih w2 (fun q k b c hk => f q k b c (by simp; omega))⟩
theorem ak_stk_sok (W : ak_Tok S T O) : ∀ {st : List (List (Int × Int))}, ak_stk S T h st → ak_sok O st := by
  intro st
  induction st with
  | nil => intro _ l hl; cases hl
  | cons l st ih =>
    intro w l' hl'
    obtain ⟨⟨s, i, a1, a2, a3, a4, a5⟩, w2⟩ := w
    rcases List.mem_cons.mp hl' with rfl | hl'
    · have := W.2.1 s a1
      rw [a5]
      exact ⟨by rw [List.length_drop]; omega, fun x hx => this.2 x (List.mem_of_mem_drop hx)⟩
    · exact ih w2 l' hl'
theorem am_s366a {Q : ak_S → Prop} (q : ∀ h', h'.1 = h.1 → (∀ k, k < 4 → h'.2.1 41 k = 0) → (∀ p k, p ≠ 41 → h'.2.1 p k = h.2.1 p k) → h'.2.2 = h.2.2 → Q h') : ak_MV e 0 (d + 1) ρ 366 [am_r 41, am_l 0] h Q X := by
  have lp : ∀ (c i : Nat) (h1 : ak_S), i + c = 4 → h1.1 = h.1 → (∀ k, k < i → h1.2.1 41 k = 0) → (∀ p k, p ≠ 41 → h1.2.1 p k = h.2.1 p k) → h1.2.2 = h.2.2 → ak_W0 e 0 d 366 ρ 6 [some (am_r 41), some (am_l 0), none, some (am_i (i : Int)), some (am_i 4)] [] h1 (ak_qv Q X) := by
    intro c
    induction c with
    | zero =>
      intro i h1 hi a1 a2 a3 a4
      have : i = 4 := by omega
      subst this
      exact am_k366a_6 ⟨fun _ => q h1 a1 a2 a3 a4, fun z => absurd z (by decide)⟩
    | succ c ih =>
      intro i h1 hi a1 a2 a3 a4
      refine am_k366a_6 ⟨fun z => absurd z (by omega), fun _ => ⟨by omega, ?_⟩⟩
      rw [ak_wj (show i < 1000000 by omega), ak_natn]
      have G : ∀ p k, ¬ (p = 41 ∧ k = i) → am_up h1.2.1 41 i 0 p k = h1.2.1 p k := fun p k a => ak_up_out a
      refine ih (i + 1) (h1.1, am_up h1.2.1 41 i 0, h1.2.2) (by omega) a1 (fun k hk => ?_) (fun p k hp => (G p k (by omega)).trans (a3 p k hp)) a4
      by_cases hki : k = i
      · subst hki
        show am_up h1.2.1 41 k 0 41 k = 0
        simp [am_up]
      · exact (G 41 k (by omega)).trans (a2 k (by omega))
  exact ak_MV_of (Nat.le_of_ble_eq_true rfl) (am_k366a_0 (lp 4 0 h (by omega) rfl (fun k hk => absurd hk (Nat.not_lt_zero _)) (fun _ _ _ => rfl) rfl))
theorem ak_un_none : ∀ n, ak_un (fun _ => false) n = n := by
  intro n
  induction n with
  | zero => rfl
  | succ n ih => unfold ak_un; rw [ih]; simp
theorem am_s161 {Q : ak_S → Prop} {s : Nat} (hs : s < S) (q : ∀ h', ak_wk S O T h' [T s] (fun _ => false) → ak_wkF h h' → Q h') (hO : O ≤ 200) : ak_MV e 0 (d + 2) ρ 161 [am_r 33, am_i (s : Int)] h Q X := by
  refine ak_MV_of (Nat.le_of_ble_eq_true rfl) (am_k161_0 (am_s366a (fun h1 a1 a2 a3 a4 => ⟨by decide, by decide, ?_⟩)))
  have G : ∀ q k, ¬ (q = 33 ∧ k = 14) → ¬ (42 ≤ q ∧ q ≤ 43) → am_up (am_up (am_up h1.1 42 0 (s : Int)) 43 0 0) 33 14 1 q k = h1.1 q k := fun q k a b => (ak_up_out a).trans ((ak_up_out (by omega)).trans (ak_up_out (by omega)))
  refine q _ ⟨ak_up_at1, ⟨⟨s, 0, hs, Nat.zero_le _, ?_, ?_, by simp⟩, trivial⟩, fun o ho => ?_, ?_⟩ ⟨fun q k a b => ?_, fun q k a => a3 q k a, a4⟩
  · simp [am_up]
  · simp [am_up]
  · show ak_lb (h1.2.1 41 (o / 64)) (o % 64) = false
    rw [a2 (o / 64) (by omega)]
    exact ak_lb_zero
  · rw [ak_un_none]; simp; omega
  · exact (G q k a b).trans (by rw [a1])
theorem am_s162 {Q : Int → ak_S → Prop} (W : ak_Tok S T O) (C : ak_tC S T h) (hO : O ≤ 200) (ho : ∀ o, o < O → sh o < S ∧ h.1 34 o = (sh o : Int)) (k : ak_wk S O T h st v)
    (q0 : ak_W T sh O st v = [] → ∀ h', ak_wk S O T h' [] v → ak_wkF h h' → Q (-1) h')
    (q1 : ∀ o rest, ak_W T sh O st v = o :: rest → o < O → v o = false → ∀ st' h', ak_wk S O T h' st' (ak_mq v o) → ak_W T sh O st' (ak_mq v o) = rest → ak_wkF h h' → Q (o : Int) h') :
    ak_MI e 0 (d + 1) ρ 162 [am_r 33] h Q X := by
  have hS := W.1.2.1
  have hs' : ∀ o, o < O → sh o < S := fun o h => (ho o h).1
  have lp : ∀ (n x1 : Nat) (st1 : List (List (Int × Int))) (h1 : ak_S), ak_wt st1 ≤ n → n + x1 < 100000 → ak_wk S O T h1 st1 v → ak_wkF h h1 → ak_W T sh O st1 v = ak_W T sh O st v → ak_W0 e 0 d 162 ρ 2 [some (am_r 33), some (am_i (x1 : Int)), none, none, none] [] h1 (ak_qi Q X) := by
    intro n
    induction n with
    | zero =>
      intro x1 st1 h1 hw hn k1 f eq
      match st1 with
      | [] =>
        refine am_k162_2 ⟨fun g => by omega, fun _ => ⟨fun _ => q0 (eq.symm.trans ak_W_nil) h1 k1 f, fun g => ?_⟩⟩
        rw [k1.1] at g; simp at g
      | l :: st1 =>
        have : ak_wt (l :: st1) = l.length + 1 + ak_wt st1 := rfl
        omega
    | succ n ih =>
      intro x1 st1 h1 hw hn k1 f eq
      match st1 with
      | [] =>
        refine am_k162_2 ⟨fun g => by omega, fun _ => ⟨fun _ => q0 (eq.symm.trans ak_W_nil) h1 k1 f, fun g => ?_⟩⟩
        rw [k1.1] at g; simp at g
      | l :: st1 =>
        have hx1 : ¬ (100000 : Int) ≤ (x1 : Int) := by omega
        have hn' : n + (x1 + 1) < 100000 := by omega
        have hx6 : x1 < 1000000 := by omega
        have wt1 : ak_wt (l :: st1) = l.length + 1 + ak_wt st1 := rfl
        have hw' : l.length + ak_wt st1 ≤ n := by omega
        clear hn hw wt1
        have sok := ak_stk_sok W k1.2.1
        obtain ⟨k14, ⟨⟨s, i, a1, a2, a3, a4, a5⟩, k2⟩, k3, k4⟩ := k1
        have C1 := ak_tC_out (h' := h1) C (fun q k hq => f.1 q k (by omega) (by omega))
        obtain ⟨c1, c2, -⟩ := C1.2 s a1
        have e14 : h1.1 33 14 = ((st1.length + 1 : Nat) : Int) := by rw [k14]; rfl
        have hlen : (l :: st1).length = st1.length + 1 := rfl
        rw [hlen] at k4
        have hsl := (W.2.1 s a1).1
        refine am_k162_2 ⟨fun g => absurd g hx1, fun _ => ⟨fun g => ?_, fun _ => ?_⟩⟩
        · rw [e14] at g; omega
        · rw [e14, show am_w32 (((st1.length + 1 : Nat) : Int) - 1) = (st1.length : Int) from by rw [ak_w _ (by omega)]; omega, ak_natn, ak_natn, a3, a4, ak_natn, c1, ak_wj hx6]
          refine ⟨by omega, by omega, by omega, by omega, fun g => ?_, fun g => ?_⟩
          · -- an item
            have hi : i < (T s).length := by omega
            have hx := List.getElem?_eq_getElem hi
            obtain ⟨x1v, x2v⟩ := c2 i _ hx
            have el : l = (T s)[i] :: (T s).drop (i + 1) := by rw [a5]; exact List.drop_eq_getElem_cons hi
            generalize (T s)[i] = x at x1v x2v el hx
            subst el
            have hw2 : ak_wt ((T s).drop (i + 1) :: st1) ≤ n := hw'
            have next : ¬ (x.1 = 2 ∧ v x.2.toNat = false) → ak_W0 e 0 d 162 ρ 2 [some (am_r 33), some (am_i ((x1 + 1 : Nat) : Int)), none, none, none] [] ((am_up h1.1 43 st1.length (am_w32 ((i : Int) + 1))), h1.2) (ak_qi Q X) := by
              intro hc
              rw [ak_wj (show i < 1000000 by omega)]
              have G : ∀ q k, ¬ (q = 43 ∧ k = st1.length) → am_up h1.1 43 st1.length ((i + 1 : Nat) : Int) q k = h1.1 q k := fun q k a => ak_up_out a
              refine ih (x1 + 1) ((T s).drop (i + 1) :: st1) (am_up h1.1 43 st1.length ((i + 1 : Nat) : Int), h1.2) hw2 hn' ⟨(G 33 14 (by omega)).trans e14, ⟨⟨s, i + 1, a1, by omega, (G 42 _ (by omega)).trans a3, ak_up_at1, rfl⟩, ak_stk_fr k2 (fun q k b c hk => G q k (by omega))⟩, k3, k4⟩ ⟨fun q k a b => (G q k (by omega)).trans (f.1 q k a b), f.2.1, f.2.2⟩ ((ak_W_skip W hs' sok hc).symm.trans eq)
            rw [ak_w12 (show 12 * s + i < 1000000 by omega), ak_natn, x1v, x2v]
            refine ⟨by omega, fun g2 => next (fun z => g2 z.1), fun g2 => ?_⟩
            obtain ⟨p1, p2⟩ := ak_sok_par sok g2
            have pv : ak_lb (h1.2.1 41 (x.2.toNat / 64)) (x.2.toNat % 64) = v x.2.toNat := k3 _ (Nat.lt_of_lt_of_le p1 hO)
            have pS := ho _ p1
            generalize x.2.toNat = o at p1 p2 pv pS next
            have vv : (x.2.toNat) = o := by rw [p2]; exact ak_natn
            rw [p2, ak_ix (show o < 200 by omega), ak_natn, ak_bt_raw (show o < 200 by omega), ak_bs_raw, pv]
            refine ⟨by omega, by omega, fun g3 => next (fun z => ?_), fun g3 => ⟨fun g4 => ?_, fun g4 => ?_⟩⟩
            · rw [z.2] at g3
              exact g3 (ak_lsign0.mpr (by rw [if_neg (by decide)]))
            · have hv : v o = false := by
                cases hv : v o with
                | false => rfl
                | true =>
                  rw [hv, if_pos rfl] at g3
                  exact absurd (ak_lsign0.mp g3) (by decide)
              have := ak_un_mk hv O p1
              omega
            · have hv : v o = false := by
                cases hv : v o with
                | false => rfl
                | true =>
                  rw [hv, if_pos rfl] at g3
                  exact absurd (ak_lsign0.mp g3) (by decide)
              have un := ak_un_mk hv O p1
              have f34 : h1.1 34 o = (sh o : Int) := (f.1 _ _ (by omega) (by omega)).trans pS.2
              rw [f34, ak_wj (show i < 1000000 by omega), ak_wj (show st1.length + 1 < 1000000 by omega)]
              have hc : x.1 = 2 ∧ v x.2.toNat = false := ⟨g2, by rw [vv]; exact hv⟩
              have push := ak_W_push (sh := sh) W hs' sok hc
              rw [vv] at push
              refine ⟨by omega, by omega, by omega, by omega, by omega, q1 o _ (eq.symm.trans push) p1 hv (T (sh o) :: (T s).drop (i + 1) :: st1) (am_up (am_up (am_up (am_up h1.1 43 st1.length ((i + 1 : Nat) : Int)) 42 (st1.length + 1) (sh o : Int)) 43 (st1.length + 1) 0) 33 14 ((st1.length + 1 + 1 : Nat) : Int), am_up h1.2.1 41 (o / 64) (ak_bs (h1.2.1 41 (o / 64)) (o : Int)), h1.2.2) ⟨ak_up_at1, ⟨⟨sh o, 0, pS.1, Nat.zero_le _, ?_, ?_, by simp⟩, ⟨⟨s, i + 1, a1, by omega, ?_, ?_, rfl⟩, ak_stk_fr k2 (fun q k b c hk => ?_)⟩⟩, fun o' ho' => ?_, ?_⟩ rfl ⟨fun q k a b => ?_, fun q k a => ?_, f.2.2⟩⟩
              · show am_up (am_up (am_up (am_up h1.1 43 st1.length ((i + 1 : Nat) : Int)) 42 (st1.length + 1) (sh o : Int)) 43 (st1.length + 1) 0) 33 14 ((st1.length + 1 + 1 : Nat) : Int) 42 (st1.length + 1) = _
                simp [am_up]
              · show am_up (am_up (am_up (am_up h1.1 43 st1.length ((i + 1 : Nat) : Int)) 42 (st1.length + 1) (sh o : Int)) 43 (st1.length + 1) 0) 33 14 ((st1.length + 1 + 1 : Nat) : Int) 43 (st1.length + 1) = _
                simp [am_up]
              · show am_up (am_up (am_up (am_up h1.1 43 st1.length ((i + 1 : Nat) : Int)) 42 (st1.length + 1) (sh o : Int)) 43 (st1.length + 1) 0) 33 14 ((st1.length + 1 + 1 : Nat) : Int) 42 st1.length = _
                rw [ak_up_out (by omega), ak_up_out (by omega), ak_up_out (by omega), ak_up_out (by omega)]
                exact a3
              · show am_up (am_up (am_up (am_up h1.1 43 st1.length ((i + 1 : Nat) : Int)) 42 (st1.length + 1) (sh o : Int)) 43 (st1.length + 1) 0) 33 14 ((st1.length + 1 + 1 : Nat) : Int) 43 st1.length = _
                rw [ak_up_out (by omega), ak_up_out (by omega), ak_up_out (by omega)]
                simp [am_up]
              · show am_up (am_up (am_up (am_up h1.1 43 st1.length ((i + 1 : Nat) : Int)) 42 (st1.length + 1) (sh o : Int)) 43 (st1.length + 1) 0) 33 14 ((st1.length + 1 + 1 : Nat) : Int) q k = _
                rw [ak_up_out (by omega), ak_up_out (by omega), ak_up_out (by omega), ak_up_out (by omega)]
              · show ak_lb (am_up h1.2.1 41 (o / 64) (ak_bs (h1.2.1 41 (o / 64)) (o : Int)) 41 (o' / 64)) (o' % 64) = _
                have e0 := k3 o' ho'
                by_cases hq : o' / 64 = o / 64
                · rw [hq]
                  have : am_up h1.2.1 41 (o / 64) (ak_bs (h1.2.1 41 (o / 64)) (o : Int)) 41 (o / 64) = ak_bs (h1.2.1 41 (o / 64)) (o : Int) := by simp [am_up]
                  rw [this, ak_lb_bs (by omega) (by omega)]
                  rw [hq] at e0
                  rw [e0]
                  unfold ak_mq
                  rw [Bool.or_comm]
                  congr 1
                  exact decide_eq_decide.mpr ⟨fun z => by omega, fun z => by rw [z]⟩
                · rw [ak_up_out (by omega), e0]
                  unfold ak_mq
                  rw [decide_eq_false (show ¬ o' = o from fun z => hq (by rw [z])), Bool.false_or]
              · simp only [List.length_cons]; omega
              · show am_up (am_up (am_up (am_up h1.1 43 st1.length ((i + 1 : Nat) : Int)) 42 (st1.length + 1) (sh o : Int)) 43 (st1.length + 1) 0) 33 14 ((st1.length + 1 + 1 : Nat) : Int) q k = _
                rw [ak_up_out (by omega), ak_up_out (by omega), ak_up_out (by omega), ak_up_out (by omega)]
                exact f.1 q k a b
              · show am_up h1.2.1 41 (o / 64) _ q k = _
                rw [ak_up_out (by omega)]
                exact f.2.1 q k a
          · -- a row is at its end
            have el : l = [] := by rw [a5]; exact List.drop_eq_nil_of_le (by omega)
            subst el
            have G : ∀ q k, ¬ (q = 43 ∧ k = st1.length) → ¬ (q = 33 ∧ k = 14) → am_up (am_up h1.1 43 st1.length (am_w32 ((i : Int) + 1))) 33 14 (st1.length : Int) q k = h1.1 q k := fun q k a b => (ak_up_out b).trans (ak_up_out a)
            exact ih (x1 + 1) st1 (am_up (am_up h1.1 43 st1.length (am_w32 ((i : Int) + 1))) 33 14 (st1.length : Int), h1.2) (Nat.le_trans (Nat.le_add_left _ _) hw') hn' ⟨ak_up_at1, ak_stk_fr k2 (fun q k b c hk => G q k (by omega) (by omega)), k3, by omega⟩ ⟨fun q k a b => (G q k (by omega) a).trans (f.1 q k a b), f.2.1, f.2.2⟩ ((ak_W_pop W hs' sok).symm.trans eq)
  have wb : ∀ (st : List (List (Int × Int))), ak_sok O st → ak_wt st ≤ 13 * st.length := by
    intro st
    induction st with
    | nil => intro _; exact Nat.le_refl _
    | cons l st ih =>
      intro k
      have h1 := ih (ak_sok_cons k)
      have h2 := (k l (List.mem_cons_self ..)).1
      show l.length + 1 + ak_wt st ≤ 13 * (st.length + 1)
      omega
  have := wb st (ak_stk_sok W k.2.1)
  have := k.2.2.2
  exact ak_MI_of (Nat.le_of_ble_eq_true rfl) (am_k162_0 (lp (ak_wt st) 0 st h (Nat.le_refl _) (by omega) k ak_wkF_refl rfl))
end NEXT
