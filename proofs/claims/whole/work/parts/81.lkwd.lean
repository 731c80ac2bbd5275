/-! a word, both sides at once -/
section LKWD
variable {e : ak_X3} {d u p : Nat} {b : Nat → Int} {n m lv o Mt : Nat} {D : Nat → Nat} {z : Nat → Nat} {hc hm : ak_S} {ρ : List Nat}
theorem lk_word {ρ0 ρ3 ρ4 : Nat} (hu : u = 0 ∨ u = 1) (w : ak_PI u p b n m lv D o Mt z hc hm) (t : ak_POT b n o 2 z) (hk : ak_kd b n (ak_st b n (z 0)) = 2) :
    ak_MV e 0 (d + 3) [ρ0, ak_T u, ak_T u + 1, ρ3, ρ4] 46 [am_r 2] hc (ak_XQ e ρ (d + 5) 228 u p b n m lv D o Mt z hc hm) (ak_XX e ρ (d + 5) 228 u p hc hm) := by
  have hkC := w.1.2.2.2.2.1
  have tk : hm.1 110 33 = 2 := w.2.1.2.2.1.trans hk
  have hf := w.2.2.1
  have rm := ak_room w (by decide) t
  have hst := (ak_st_n w).1
  have ham : z 0 < m := ak_cc_lt w.1 (by omega)
  have hp := w.2.1.1.1
  have hp2 := w.2.1.1.2.1
  have hz := w.2.2.2.2.2.2.2.2.2.1
  have sc := w.2.2.2.2.1
  obtain ⟨hin, hl, wd, hv⟩ := ak_kd_word hk
  have v10 : hc.2.1 3 10 = ak_pk b (ak_st b n (z 0)) (ak_nx b n (ak_st b n (z 0)) - ak_st b n (z 0)) := by
    rw [w.1.2.2.2.2.2.2]
    exact hv _ (w.1.2.1 (z 0) w.1.1.1).2.2
  -- the other, from its first token on
  have run : ∀ {Q : Int → ak_S → Prop} {X : Nat → ak_S → Prop}, ak_MV e 1 (d + 4) ρ 217 [am_r 110] hm (fun h4 =>
          ak_MI e 1 (d + 4) ρ 206 [am_r 110] h4 (fun v6 h5 =>
            (v6 = 0 →
              ak_MI e 1 (d + 4) ρ 212 [am_r 110, am_i 7, am_i 0] h5 (fun v8 h7 =>
                (0 ≤ v8 ∧ v8 < (18000 : Int)) ∧ (0 ≤ v8 ∧ v8 < (18000 : Int)) ∧ ak_MV e 1 (d + 4) ρ 205 [am_r 110] ((am_up (am_up h7.1 115 v8.toNat (h7.1 110 43)) 116 v8.toNat (h7.1 110 44)), h7.2) (fun h9 =>
                  Q v8 h9) (fun _ _ => False)) (fun _ _ => False))
            ∧ (v6 ≠ 0 →
              Q ((-1)) h5)) (fun _ _ => False)) (fun _ _ => False) → ak_MI e 1 (d + 5) ρ 228 [am_r 110] hm Q X := by
    intro Q X r
    refine ak_MI_of (Nat.le_of_ble_eq_true rfl) (am_k228_0 (am_s206 (fun _ => ⟨fun _ => ?_, fun q => absurd rfl q⟩) (fun q => absurd q (by omega))))
    refine ⟨trivial, ?_⟩
    rw [tk]
    exact ⟨fun q => absurd rfl q.1, fun _ => r, fun q => absurd q (by decide), fun q => absurd q (by decide), fun q => absurd q (by decide), fun q => absurd q (by decide), fun q => absurd q (by decide), fun q => absurd q (by decide), fun q => absurd q (by decide), fun q => absurd q (by decide), fun q => absurd q (by decide), trivial⟩
  refine ak_MV_of (Nat.le_of_ble_eq_true rfl) (am_k46_0 hu ?_)
  rw [hkC, hk, v10]
  refine ⟨trivial, fun q => absurd rfl q.1, fun _ => ?_, fun q => absurd q (by decide), fun q => absurd q (by decide), fun q => absurd q (by decide), fun q => absurd q (by decide), fun q => absurd q (by decide), trivial⟩
  refine am_s19 hu sc (fun no => ⟨fun _ => ?_, fun q => absurd q (by decide)⟩) (fun s k hs hsl hff hk12 => ⟨fun q => absurd q (by omega), fun _ => ?_⟩)
  · refine am_s10 hu (fun q => absurd rfl q) (fun _ => ⟨rfl, -1, ak_wr hm, ak_WR_at (by decide) w t, fun Q X q => run ?_⟩)
    refine am_s217 sc w.2.1.1 hf tk w.2.1.2.2.2.1 w.2.1.2.2.2.2.1 wd (fun _ => ?_) (fun s k hs _ _ _ => absurd (hs.symm.trans no) (by omega))
    have hfw : 0 ≤ (ak_wr hm).1 110 37 := by
      show 0 ≤ am_up hm.1 110 37 (hm.1 110 34) 110 37
      rw [ak_up_eq, w.2.1.2.2.2.1]; omega
    exact am_w206 hfw ⟨fun q => absurd q (by decide), fun _ => q⟩
  · refine am_s10 hu (fun _ => ?_) (fun q => absurd q (by decide))
    refine ak_at_C hu w rm.1 ham (fun hc' C' fr => ?_)
    have w1 := ak_PI_cell hu (ak_PI_cell hu (ak_PI_put hu w (r := 6) (x := (((lv - s) * 16 + k : Nat) : Int))) (q := 110) (k := 43) (v := ((lv - s : Nat) : Int)) (Or.inr (by decide))) (q := 110) (k := 44) (v := (k : Int)) (Or.inr (by decide))
    have e1 := ak_ext_note (ak_ext_note (ak_ext_put hu (u := u) (p := p) (z := z) (hc := hc) (hm := hm) (r := 6) (x := (((lv - s) * 16 + k : Nat) : Int))) (k := 43) (v := ((lv - s : Nat) : Int)) (by decide)) (k := 44) (v := (k : Int)) (by decide)
    have h43 : am_up (am_up hm.1 110 43 ((lv - s : Nat) : Int)) 110 44 (k : Int) 110 43 = ((lv - s : Nat) : Int) := by simp [am_up]
    have h44 : am_up (am_up hm.1 110 43 ((lv - s : Nat) : Int)) 110 44 (k : Int) 110 44 = (k : Int) := by simp [am_up]
    have f37 : am_up (am_up hm.1 110 43 ((lv - s : Nat) : Int)) 110 44 (k : Int) 110 37 < 0 := w1.2.2.1
    have p31 : am_up (am_up hm.1 110 43 ((lv - s : Nat) : Int)) 110 44 (k : Int) 110 31 = (p : Int) := w1.2.1.1.1
    have z121 : am_up (am_up hm.1 110 43 ((lv - s : Nat) : Int)) 110 44 (k : Int) 121 p = (z 2 : Int) := w1.2.2.2.2.2.2.2.2.2.1
    have a217 : ∀ {P : ak_S → Prop} {X : Nat → ak_S → Prop}, P (am_up (am_up hm.1 110 43 ((lv - s : Nat) : Int)) 110 44 (k : Int), hm.2) → ak_MV e 1 (d + 4) ρ 217 [am_r 110] hm P X := by
      intro P X pr
      refine am_s217 sc w.2.1.1 hf tk w.2.1.2.2.2.1 w.2.1.2.2.2.2.1 wd (fun no => absurd (hs.symm.trans no) (by omega)) (fun s' k' hs' hsl' hff' hk' => ?_)
      have es : s' = s := by
        have := hs'.symm.trans hs
        omega
      subst es
      have ek : k' = k := by
        have := hff'.symm.trans hff
        omega
      subst ek
      exact pr
    generalize hG : (am_up (am_up hm.1 110 43 ((lv - s : Nat) : Int)) 110 44 (k : Int), hm.2) = g at w1 e1 a217
    have h43' : g.1 110 43 = ((lv - s : Nat) : Int) := by rw [← hG]; exact h43
    have h44' : g.1 110 44 = (k : Int) := by rw [← hG]; exact h44
    have f37' : g.1 110 37 < 0 := by rw [← hG]; exact f37
    have p31' : g.1 110 31 = (p : Int) := by rw [← hG]; exact p31
    have z121' : g.1 121 p = (z 2 : Int) := by rw [← hG]; exact z121
    have wn := ak_PI_node hu w1 (k := 7) (r := 0)
    have en : ak_ext u p z (ak_zu (ak_zu z 1 (z 1 + 1)) 2 (z 2 + 1)) hc hm (ak_put hc u (z 1) 6 (((lv - s) * 16 + k : Nat) : Int)) (ak_node g p (z 2) 7 0) := ak_ext_trans e1 (ak_ext_node (show z 2 < 9000 by omega))
    have wn2 := ak_PI_cell hu (ak_PI_cell hu wn (q := 115) (k := 9000 * p + z 2) (v := ((lv - s : Nat) : Int)) (Or.inl (by decide))) (q := 116) (k := 9000 * p + z 2) (v := (k : Int)) (Or.inl (by decide))
    have en2 := ak_ext_cell (ak_ext_cell en (q := 115) (k := 9000 * p + z 2) (v := ((lv - s : Nat) : Int)) (by decide) (Nat.le_refl _) (by omega)) (q := 116) (k := 9000 * p + z 2) (v := (k : Int)) (by decide) (Nat.le_refl _) (by omega)
    have c43 : (ak_node g p (z 2) 7 0).1 110 43 = ((lv - s : Nat) : Int) := (ak_node_at (by omega) (by omega)).trans h43'
    have c44 : (ak_node g p (z 2) 7 0).1 110 44 = (k : Int) := (ak_node_at (by omega) (by omega)).trans h44'
    have e114 : am_up (am_up (ak_node g p (z 2) 7 0).1 115 (9000 * p + z 2) ((lv - s : Nat) : Int)) 116 (9000 * p + z 2) (k : Int) 114 (9000 * p + z 2) = 7 := by simp [ak_node, am_up]
    have e115 : am_up (am_up (ak_node g p (z 2) 7 0).1 115 (9000 * p + z 2) ((lv - s : Nat) : Int)) 116 (9000 * p + z 2) (k : Int) 115 (9000 * p + z 2) = ((lv - s : Nat) : Int) := by simp [am_up]
    have e116 : am_up (am_up (ak_node g p (z 2) 7 0).1 115 (9000 * p + z 2) ((lv - s : Nat) : Int)) 116 (9000 * p + z 2) (k : Int) 116 (9000 * p + z 2) = (k : Int) := by simp [am_up]
    obtain ⟨hm', ⟨M', fr'⟩, rd⟩ := ak_MV_get (e := e) (r := 1) (d := d + 4) (ρ := ρ) (am_rd (X := ak_F) wn2.2.1 hst (fun h' c f => (⟨c, f⟩ : ak_cm b n p h' (z 0 + 1) ∧ ak_rfr (am_up (am_up (ak_node g p (z 2) 7 0).1 115 (9000 * p + z 2) ((lv - s : Nat) : Int)) 116 (9000 * p + z 2) (k : Int), (ak_node g p (z 2) 7 0).2) h')))
    have lv20 := sc.2.1
    refine ⟨_, _, hm', ak_at_end hu w ham wn2 en2 C' fr M' fr' (fun C M h1 h2 h3 k1 i hk hi => ak_T3_fold ⟨_, rfl, ⟨hk, hi⟩, Or.inr (Or.inr (Or.inr (Or.inr (Or.inr (Or.inr (Or.inl ⟨(h3 114 (by decide) (by decide)).trans e114, rfl, h1, ?_⟩))))))⟩), fun Q X q => run (a217 (am_s206 (fun _ => ⟨fun _ => am_s212 p31' hp2 z121' (by omega) ?_, fun q => absurd rfl q⟩) (fun q => absurd q (by omega))))⟩
    · rw [(h3 115 (by decide) (by decide)).trans e115, (h3 116 (by decide) (by decide)).trans e116, h2]
      unfold ak_lt
      have mt := w.2.2.2.2.2.2.2.1.1
      omega
    · rw [ak_natn, c43, c44]
      exact ⟨by omega, by omega, rd _ _ q⟩
end LKWD
