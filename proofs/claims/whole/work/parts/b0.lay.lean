/-! the other lays a way -/
def ak_wyM (O : Nat) (h : ak_S) (w : List Nat) (v : Nat → Bool) : Prop := h.1 110 64 = (w.length : Int) ∧ (∀ k o : Nat, w[k]? = some o → h.1 154 k = (o : Int) ∧ o < O) ∧ (∀ x, x < 200 → h.1 157 x = if v x = true then 1 else 0) ∧ (∀ x, v x = true → x ∈ w) ∧ w.length + ak_un v O = O
/-- a way that was laid some time -/
def ak_wyS (h : ak_S) (w : List Nat) : Prop := h.1 110 64 = (w.length : Int) ∧ w.length ≤ 200 ∧ (∀ k o : Nat, w[k]? = some o → h.1 154 k = (o : Int) ∧ o < 200) ∧ ∀ x, x < 200 → h.1 157 x = 0 ∨ (h.1 157 x = 1 ∧ x ∈ w)
def ak_stm (O : Nat) (T : Nat → List (Int × Int)) (sh : Nat → Nat) (h : ak_S) : List (List (Int × Int)) → Prop
  | [] => True
  | l :: st => (∃ o i : Nat, o < O ∧ i ≤ (T (sh o)).length ∧ h.1 155 st.length = (o : Int) ∧ h.1 156 st.length = (i : Int) ∧ l = (T (sh o)).drop i) ∧ ak_stm O T sh h st
/-- what laying changes -/
def ak_lyF (h h' : ak_S) : Prop := (∀ q k, ¬ (q = 110 ∧ (k = 64 ∨ k = 67)) → ¬ (154 ≤ q ∧ q ≤ 157) → h'.1 q k = h.1 q k) ∧ h'.2 = h.2
section LAY
variable {e : ak_X3} {d S O : Nat} {ρ : List Nat} {T : Nat → List (Int × Int)} {sh : Nat → Nat} {h h' h2 : ak_S} {v : Nat → Bool} {st : List (List (Int × Int))} {X : Nat → ak_S → Prop} {w : List Nat}
theorem ak_lyF_refl : ak_lyF h h := ⟨fun _ _ _ _ => rfl, rfl⟩
theorem ak_lyF_trans (w : ak_lyF h h') (w2 : ak_lyF h' h2) : ak_lyF h h2 := ⟨fun q k a b => (w2.1 q k a b).trans (w.1 q k a b), w2.2.trans w.2⟩
theorem ak_stm_fr : ∀ {st : List (List (Int × Int))}, ak_stm O T sh h st → (∀ q k, 155 ≤ q → q ≤ 156 → k < st.length → h'.1 q k = h.1 q k) → ak_stm O T sh h' st := by
  intro st
  induction st with
  | nil => intro _ _; trivial
  | cons l st ih =>
    intro w f
    obtain ⟨⟨s, i, a1, a2, a3, a4, a5⟩, w2⟩ := w
    have hl : st.length < (l :: st).length := by simp
    exact ⟨⟨s, i, a1, a2, (f 155 _ (by omega) (by omega) hl).trans a3, (f 156 _ (by omega) (by omega) hl).trans a4, a5⟩, ih w2 (fun q k b c hk => f q k b c (by simp; omega))⟩
theorem ak_stm_sok (W : ak_Tok S T O) (hs : ∀ o, o < O → sh o < S) {r : List (Int × Int)} (hr : ak_sok O [r]) : ∀ {st : List (List (Int × Int))}, ak_stm O T sh h st → ak_sok O (st ++ [r]) := by
  intro st
  induction st with
  | nil => intro _; exact hr
  | cons l st ih =>
    intro w l' hl'
    obtain ⟨⟨s, i, a1, a2, a3, a4, a5⟩, w2⟩ := w
    rcases List.mem_cons.mp hl' with rfl | hl'
    · have := W.2.1 _ (hs _ a1)
      rw [a5]
      exact ⟨by rw [List.length_drop]; omega, fun x hx => this.2 x (List.mem_of_mem_drop hx)⟩
    · exact ih w2 l' hl'
theorem am_s246 {Q : Int → ak_S → Prop} {x : Nat} (L : ak_wyM O h w v) (hx : x < 200) (q : Q (if v x = true then 1 else 0) h) : ak_MI e 1 (d + 1) ρ 246 [am_r 110, am_i (x : Int)] h Q X := by
  refine ak_MI_of (Nat.le_of_ble_eq_true rfl) (am_k246_0 ?_)
  rw [ak_natn, L.2.2.1 x hx]
  refine ⟨by omega, ?_, q⟩
  cases v x with
  | true => exact Or.inr rfl
  | false => exact Or.inl rfl
theorem am_s247 {Q : ak_S → Prop} {x : Nat} (L : ak_wyM O h w v) (hO : O ≤ 200) (hx : x < O) (hv : v x = false) (q : ∀ h', ak_wyM O h' (w ++ [x]) (ak_mq v x) → ak_lyF h h' → (∀ q k, 155 ≤ q → q ≤ 156 → h'.1 q k = h.1 q k) → h'.1 110 67 = h.1 110 67 → Q h') : ak_MV e 1 (d + 1) ρ 247 [am_r 110, am_i (x : Int)] h Q X := by
  obtain ⟨l1, l2, l3, l4, l5⟩ := L
  have un := ak_un_mk hv O hx
  refine ak_MV_of (Nat.le_of_ble_eq_true rfl) (am_k247_0 ?_)
  rw [l1, ak_natn, ak_natn, ak_wj (show w.length < 1000000 by omega)]
  have G : ∀ q k, ¬ (q = 154 ∧ k = w.length) → ¬ (q = 110 ∧ k = 64) → ¬ (q = 157 ∧ k = x) → am_up (am_up (am_up h.1 154 w.length (x : Int)) 110 64 ((w.length + 1 : Nat) : Int)) 157 x 1 q k = h.1 q k := fun q k a b c => (ak_up_out c).trans ((ak_up_out b).trans (ak_up_out a))
  refine ⟨by omega, ⟨by omega, Or.inr rfl⟩, q (am_up (am_up (am_up h.1 154 w.length (x : Int)) 110 64 ((w.length + 1 : Nat) : Int)) 157 x 1, h.2) ⟨?_, fun k o hk => ?_, fun y hy => ?_, fun y hy => ?_, ?_⟩ ⟨fun q k a b => G q k (by omega) (by omega) (by omega), rfl⟩ (fun q k a b => G q k (by omega) (by omega) (by omega)) (G 110 67 (by omega) (by omega) (by omega))⟩
  · show am_up (am_up (am_up h.1 154 w.length (x : Int)) 110 64 ((w.length + 1 : Nat) : Int)) 157 x 1 110 64 = _
    rw [List.length_append]
    simp [am_up]
  · show am_up (am_up (am_up h.1 154 w.length (x : Int)) 110 64 ((w.length + 1 : Nat) : Int)) 157 x 1 154 k = _ ∧ _
    by_cases hkl : k = w.length
    · subst hkl
      rw [ak_get_snoc] at hk
      cases hk
      exact ⟨by simp [am_up], hx⟩
    · have hk2 := ak_get_none hk
      rw [List.length_append] at hk2
      simp at hk2
      rw [ak_get_snoc_lt (by omega)] at hk
      rw [G 154 k (by omega) (by omega) (by omega)]
      exact l2 k o hk
  · show am_up (am_up (am_up h.1 154 w.length (x : Int)) 110 64 ((w.length + 1 : Nat) : Int)) 157 x 1 157 y = _
    unfold ak_mq
    by_cases hyx : y = x
    · subst hyx
      simp [am_up]
    · rw [G 157 y (by omega) (by omega) (by omega), l3 y hy, decide_eq_false hyx, Bool.false_or]
  · unfold ak_mq at hy
    by_cases hyx : y = x
    · subst hyx
      simp
    · rw [decide_eq_false hyx, Bool.false_or] at hy
      exact List.mem_append_left _ (l4 y hy)
  · rw [List.length_append]
    simp
    omega
theorem am_s249 {Q : ak_S → Prop} {x : Int × Int} {r : List (Int × Int)} (W : ak_Tok S T O) (hO : O ≤ 200) (hob : ∀ o, o < O → sh o < S ∧ ak_ob (T (sh o)) o h) (L : ak_wyM O h w v) (hr : ak_sok O [x :: r]) (hx : x.1 = 2)
    (q : ∀ h' w' v', ak_wyM O h' w' v' → w' ++ ak_W T sh O [r] v' = w ++ ak_W T sh O [x :: r] v → ak_lyF h h' → h'.1 110 67 = h.1 110 67 → Q h') : ak_MV e 1 (d + 2) ρ 249 [am_r 110, am_i x.2] h Q X := by
  have hs : ∀ o, o < O → sh o < S := fun o h => (hob o h).1
  obtain ⟨p1, p2⟩ := ak_sok_par hr hx
  have hr2 : ak_sok O [r] := ak_sok_skip hr
  have lp : ∀ (n : Nat) (en : List (List (Int × Int))) (h1 : ak_S) (w1 : List Nat) (v1 : Nat → Bool), ak_wt en + 14 * ak_un v1 O < n → ak_wyM O h1 w1 v1 → ak_stm O T sh h1 en → en.length + ak_un v1 O ≤ O → ak_lyF h h1 → h1.1 110 67 = h.1 110 67 → w1 ++ ak_W T sh O (en ++ [r]) v1 = w ++ ak_W T sh O [x :: r] v →
      ak_W0 e 1 (d + 1) 249 ρ 30 [some (am_r 110), none, some (am_i (en.length : Int)), none, none, none] [] h1 (ak_qv Q X) := by
    intro n
    induction n with
    | zero => intro en h1 w1 v1 hn; omega
    | succ n ih =>
      intro en h1 w1 v1 hn L1 st1 ln f f67 eq
      match en with
      | [] => exact am_k249_30 ⟨fun _ => q h1 w1 v1 L1 eq f f67, fun g => absurd g (by decide)⟩
      | l :: en =>
        have sok := ak_stm_sok W hs hr2 st1
        obtain ⟨⟨o, i, a1, a2, a3, a4, a5⟩, k2⟩ := st1
        have hn' : l.length + ak_wt en + 14 * ak_un v1 O < n := by
          have e1 : ak_wt (l :: en) = l.length + 1 + ak_wt en := rfl
          omega
        clear hn
        have hlen : (l :: en).length = en.length + 1 := rfl
        rw [hlen] at ln
        have OB := (hob o a1).2
        have hsl := (W.2.1 _ (hs o a1)).1
        have n141 : h1.1 141 o = ((T (sh o)).length : Int) := (f.1 _ _ (by omega) (by omega)).trans OB.1
        have e14 : ((l :: en).length : Int) = ((en.length + 1 : Nat) : Int) := rfl
        rw [e14]
        refine am_k249_30 ⟨fun g => by omega, fun _ => ?_⟩
        rw [show am_w32 (((en.length + 1 : Nat) : Int) - 1) = (en.length : Int) from by rw [ak_w _ (by omega)]; omega, ak_natn, a3, a4, ak_natn, n141, show am_w32 (((en.length + 1 : Nat) : Int) + -1) = (en.length : Int) from by rw [ak_w _ (by omega)]; omega]
        refine ⟨by omega, by omega, by omega, fun g => ?_, fun g => ?_⟩
        · have hi : i < (T (sh o)).length := by omega
          have hx := List.getElem?_eq_getElem hi
          obtain ⟨x1v, x2v⟩ := OB.2 i _ hx
          have c1 : h1.1 143 (12 * o + i) = ((T (sh o))[i]).1 := (f.1 _ _ (by omega) (by omega)).trans x1v
          have c2 : h1.1 144 (12 * o + i) = ((T (sh o))[i]).2 := (f.1 _ _ (by omega) (by omega)).trans x2v
          have el : l = (T (sh o))[i] :: (T (sh o)).drop (i + 1) := by rw [a5]; exact List.drop_eq_getElem_cons hi
          clear x1v x2v
          generalize (T (sh o))[i] = y at c1 c2 el hx
          subst el
          rw [ak_w12m (show 12 * o + i < 1000000 by omega), ak_natn, c1, c2, ak_wj (show i < 1000000 by omega)]
          have G : ∀ q k, ¬ (q = 156 ∧ k = en.length) → am_up h1.1 156 en.length ((i + 1 : Nat) : Int) q k = h1.1 q k := fun q k a => ak_up_out a
          -- the state behind the item
          have L2 : ak_wyM O (am_up h1.1 156 en.length ((i + 1 : Nat) : Int), h1.2) w1 v1 := ⟨(G _ _ (by omega)).trans L1.1, fun k o hk => ⟨(G _ _ (by omega)).trans (L1.2.1 k o hk).1, (L1.2.1 k o hk).2⟩, fun x hx => (G _ _ (by omega)).trans (L1.2.2.1 x hx), L1.2.2.2.1, L1.2.2.2.2⟩
          have S2 : ak_stm O T sh (am_up h1.1 156 en.length ((i + 1 : Nat) : Int), h1.2) ((T (sh o)).drop (i + 1) :: en) := ⟨⟨o, i + 1, a1, by omega, (G _ _ (by omega)).trans a3, ak_up_at1, rfl⟩, ak_stm_fr k2 (fun q k b c hk => G q k (by omega))⟩
          have F2 : ak_lyF h (am_up h1.1 156 en.length ((i + 1 : Nat) : Int), h1.2) := ⟨fun q k a b => (G q k (by omega)).trans (f.1 q k a b), f.2⟩
          have hw2 : ak_wt ((T (sh o)).drop (i + 1) :: en) + 14 * ak_un v1 O < n := hn'
          have e15 : (((T (sh o)).drop (i + 1) :: en).length : Int) = ((en.length + 1 : Nat) : Int) := rfl
          have next : ¬ (y.1 = 2 ∧ v1 y.2.toNat = false) → ak_W0 e 1 (d + 1) 249 ρ 30 [some (am_r 110), none, some (am_i ((en.length + 1 : Nat) : Int)), none, none, none] [] (am_up h1.1 156 en.length ((i + 1 : Nat) : Int), h1.2) (ak_qv Q X) := by
            intro hc
            rw [← e15]
            refine ih _ _ w1 v1 hw2 L2 S2 ln F2 ((G 110 67 (by omega)).trans f67) ?_
            rw [← eq]
            congr 1
            exact (ak_W_skip W hs sok hc).symm
          refine ⟨by omega, by omega, by omega, by omega, fun g2 => next (fun z => g2 z.1), fun g2 => ?_⟩
          obtain ⟨p1, p2⟩ := ak_sok_par sok g2
          have push := fun hc => ak_W_push (sh := sh) (v := v1) W hs sok hc
          generalize hyo : y.2.toNat = o' at p1 p2 next push
          rw [p2]
          refine am_s246 (d := d) L2 (by omega) ⟨fun g3 => ?_, fun g3 => next (fun z => ?_)⟩
          · have hv : v1 o' = false := by
              cases hv : v1 o' with
              | false => rfl
              | true => rw [hv, if_pos rfl] at g3; exact absurd g3 (by decide)
            have un := ak_un_mk hv O p1
            have P := push ⟨g2, hv⟩
            refine am_s247 (d := d) L2 hO p1 hv (fun h3 L3 F3 K3 K67 => ?_)
            rw [ak_natn, ak_wj (show en.length + 1 < 1000000 by omega)]
            have l12 := (W.2.1 _ (hs _ p1)).1
            have e16 : ((T (sh o') :: (T (sh o)).drop (i + 1) :: en).length : Int) = ((en.length + 1 + 1 : Nat) : Int) := rfl
            have G3 : ∀ q k, ¬ (q = 155 ∧ k = en.length + 1) → ¬ (q = 156 ∧ k = en.length + 1) → am_up (am_up h3.1 155 (en.length + 1) (o' : Int)) 156 (en.length + 1) 0 q k = h3.1 q k := fun q k a b => (ak_up_out b).trans (ak_up_out a)
            refine ⟨by omega, by omega, ?_⟩
            rw [← e16]
            refine ih (T (sh o') :: (T (sh o)).drop (i + 1) :: en) (am_up (am_up h3.1 155 (en.length + 1) (o' : Int)) 156 (en.length + 1) 0, h3.2) (w1 ++ [o']) (ak_mq v1 o') ?_ ⟨(G3 _ _ (by omega) (by omega)).trans L3.1, fun k o hk => ⟨(G3 _ _ (by omega) (by omega)).trans (L3.2.1 k o hk).1, (L3.2.1 k o hk).2⟩, fun x hx => (G3 _ _ (by omega) (by omega)).trans (L3.2.2.1 x hx), L3.2.2.2.1, L3.2.2.2.2⟩
              ⟨⟨o', 0, p1, Nat.zero_le _, ?_, ?_, by simp⟩, ak_stm_fr S2 (fun q k b c hk => (G3 q k ?_ ?_).trans (K3 q k b c))⟩ ?_ ⟨fun q k a b => (G3 q k (by omega) (by omega)).trans ((F3.1 q k a b).trans (F2.1 q k a b)), F3.2.trans F2.2⟩ ((G3 110 67 (by omega) (by omega)).trans (K67.trans ((G 110 67 (by omega)).trans f67))) ?_
            · have e3 : ak_wt (T (sh o') :: (T (sh o)).drop (i + 1) :: en) = (T (sh o')).length + 1 + ak_wt ((T (sh o)).drop (i + 1) :: en) := rfl
              omega
            · show am_up (am_up h3.1 155 (en.length + 1) (o' : Int)) 156 (en.length + 1) 0 155 (en.length + 1) = _
              simp [am_up]
            · exact ak_up_at1
            · have : ((T (sh o)).drop (i + 1) :: en).length = en.length + 1 := rfl
              omega
            · have : ((T (sh o)).drop (i + 1) :: en).length = en.length + 1 := rfl
              omega
            · have : (T (sh o') :: (T (sh o)).drop (i + 1) :: en).length = en.length + 1 + 1 := rfl
              omega
            · rw [← eq, List.append_assoc]
              congr 1
              exact P.symm
          · rw [z.2] at g3
            exact g3 (by rw [if_neg (by decide)])
        · have el : l = [] := by rw [a5]; exact List.drop_eq_nil_of_le (by omega)
          subst el
          refine ih en h1 w1 v1 (by simpa using hn') L1 k2 (by omega) f f67 ?_
          rw [← eq]
          congr 1
          exact (ak_W_pop W hs sok).symm
  refine ak_MV_of (Nat.le_of_ble_eq_true rfl) (am_k249_0 ?_)
  have push := fun hc => ak_W_push (sh := sh) (v := v) W hs hr hc
  have skip := fun hc => ak_W_skip (sh := sh) (v := v) W hs hr hc
  generalize hyo : x.2.toNat = o' at p1 p2 push skip
  rw [p2]
  refine am_s246 (d := d) L (by omega) ⟨fun g3 => ?_, fun g3 => ?_⟩
  · have hv : v o' = false := by
      cases hv : v o' with
      | false => rfl
      | true => rw [hv, if_pos rfl] at g3; exact absurd g3 (by decide)
    have un := ak_un_mk hv O p1
    have P := push ⟨hx, hv⟩
    have ul := ak_un_le (v := v) O
    refine am_s247 (d := d) L hO p1 hv (fun h3 L3 F3 K3 K67 => ⟨by decide, by decide, ?_⟩)
    have G3 : ∀ q k, ¬ (q = 155 ∧ k = 0) → ¬ (q = 156 ∧ k = 0) → am_up (am_up h3.1 155 0 (o' : Int)) 156 0 0 q k = h3.1 q k := fun q k a b => (ak_up_out b).trans (ak_up_out a)
    have l12 := (W.2.1 _ (hs _ p1)).1
    refine lp _ [T (sh o')] (am_up (am_up h3.1 155 0 (o' : Int)) 156 0 0, h3.2) (w ++ [o']) (ak_mq v o') (Nat.lt_succ_self _) ⟨(G3 _ _ (by omega) (by omega)).trans L3.1, fun k o hk => ⟨(G3 _ _ (by omega) (by omega)).trans (L3.2.1 k o hk).1, (L3.2.1 k o hk).2⟩, fun x hx => (G3 _ _ (by omega) (by omega)).trans (L3.2.2.1 x hx), L3.2.2.2.1, L3.2.2.2.2⟩
      ⟨⟨o', 0, p1, Nat.zero_le _, ?_, ak_up_at1, by simp⟩, trivial⟩ ?_ ⟨fun q k a b => (G3 q k (by omega) (by omega)).trans (F3.1 q k a b), F3.2⟩ ((G3 110 67 (by omega) (by omega)).trans K67) ?_
    · show am_up (am_up h3.1 155 0 (o' : Int)) 156 0 0 155 0 = _
      simp [am_up]
    · show 1 + ak_un (ak_mq v o') O ≤ O
      omega
    · rw [List.append_assoc]
      congr 1
      exact P.symm
  · refine q h w v L ?_ ak_lyF_refl rfl
    rw [skip (fun z => ?_)]
    rw [z.2] at g3
    exact g3 (by rw [if_neg (by decide)])
end LAY
