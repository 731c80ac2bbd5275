/-! messages and calls behind a primary -/
section LKCH
variable {e : ak_X3} {d u p : Nat} {b : Nat → Int} {n m lv o Mt : Nat} {D : Nat → Nat} {z z1 z' : Nat → Nat} {hc hm hc1 hm1 hc' hm' hcP : ak_S} {ρ : List Nat}
def ak_four (h : ak_S) (y : Nat) (a c o s : Int) : ak_S := (am_up (am_up (am_up (am_up h.1 115 y a) 116 y c) 117 y o) 118 y s, h.2)
theorem lk_call (hu : u = 0 ∨ u = 1) {x1 x nk r v s : Int} {kk : Nat} (t : ak_POT b n o 2 z) (P1 : ak_XP 227 u p b n m lv D o Mt z hc hm z1 x1 hc1 hm1) (A : ak_AP u p b n m lv D o Mt z1 hc1 hm1 z' kk x hcP hm')
    (hr : (nk = 9 ∧ r = 17 ∧ v = s * 8 + (kk : Int) ∧ 0 ≤ s ∧ s < (z' 7 : Int)) ∨ (nk = 10 ∧ r = 19 ∧ v = (kk : Int))) :
    ak_XP 227 u p b n m lv D o Mt z hc hm (ak_zu (ak_zu z' 1 (z' 1 + 1)) 2 (z' 2 + 1)) ((9000 * p + z' 2 : Nat) : Int) (ak_put hcP u (z' 1) r v) (ak_four (ak_node hm' p (z' 2) nk 0) (9000 * p + z' 2) x1 x (kk : Int) s) := by
  obtain ⟨I1, l1, r1, e1, T1⟩ := P1
  obtain ⟨I3, l3, r3, e3, h45, hk, T3⟩ := A
  have t3 : ak_POT b n o 2 z' := by
    unfold ak_REL at r1
    unfold ak_POT at t ⊢
    omega
  have rm := ak_room I3 (by decide) t3
  have ez3 := ak_ext_trans e1 e3
  have kb : 9000 * p + z' 2 < 9000 * p + 9000 := by omega
  have wn : ak_PI u p b n m lv D o Mt (ak_zu (ak_zu z' 1 (z' 1 + 1)) 2 (z' 2 + 1)) (ak_put hcP u (z' 1) r v) (ak_four (ak_node hm' p (z' 2) nk 0) (9000 * p + z' 2) x1 x (kk : Int) s) :=
    ak_PI_cell hu (ak_PI_cell hu (ak_PI_cell hu (ak_PI_cell hu (ak_PI_node hu (ak_PI_put hu I3 (r := r) (x := v)) (k := nk) (r := 0)) (Or.inl (by decide))) (Or.inl (by decide))) (Or.inl (by decide))) (Or.inl (by decide))
  have en : ak_ext u p z' (ak_zu (ak_zu z' 1 (z' 1 + 1)) 2 (z' 2 + 1)) hcP hm' (ak_put hcP u (z' 1) r v) (ak_four (ak_node hm' p (z' 2) nk 0) (9000 * p + z' 2) x1 x (kk : Int) s) :=
    ak_ext_cell (ak_ext_cell (ak_ext_cell (ak_ext_cell (ak_ext_trans (ak_ext_put hu) (ak_ext_node (show z' 2 < 9000 by omega))) (by decide) (Nat.le_refl _) kb) (by decide) (Nat.le_refl _) kb) (by decide) (Nat.le_refl _) kb) (by decide) (Nat.le_refl _) kb
  have e114 : (ak_four (ak_node hm' p (z' 2) nk 0) (9000 * p + z' 2) x1 x (kk : Int) s).1 114 (9000 * p + z' 2) = nk := by simp [ak_four, ak_node, am_up]
  have e115 : (ak_four (ak_node hm' p (z' 2) nk 0) (9000 * p + z' 2) x1 x (kk : Int) s).1 115 (9000 * p + z' 2) = x1 := by simp [ak_four, am_up]
  have e116 : (ak_four (ak_node hm' p (z' 2) nk 0) (9000 * p + z' 2) x1 x (kk : Int) s).1 116 (9000 * p + z' 2) = x := by simp [ak_four, am_up]
  have e117 : (ak_four (ak_node hm' p (z' 2) nk 0) (9000 * p + z' 2) x1 x (kk : Int) s).1 117 (9000 * p + z' 2) = (kk : Int) := by simp [ak_four, am_up]
  have e118 : (ak_four (ak_node hm' p (z' 2) nk 0) (9000 * p + z' 2) x1 x (kk : Int) s).1 118 (9000 * p + z' 2) = s := by simp [ak_four, am_up]
  have o1 : (ak_put hcP u (z' 1) r v).1 (ak_T u + 2) (z' 1) = r := by simp [ak_put, am_up]
  have o2 : (ak_put hcP u (z' 1) r v).1 (ak_T u + 3) (z' 1) = v := by simp [ak_put, am_up]
  have lz3 := ak_ext_le ez3
  refine ⟨wn, show z 0 < z' 0 by omega, ?_, ak_ext_trans ez3 en, fun C2 M2 ft => ?_⟩
  · unfold ak_REL at r1 ⊢
    show 2 * (z' 1 + 1) + 1 + 3 * ak_st b n (z 0) + z 5 ≤ 2 * z 1 + 3 * ak_st b n (z' 0) + z' 5 ∧ z' 2 + 1 + ak_st b n (z 0) ≤ z 2 + ak_st b n (z' 0) ∧ 13 * z' 3 + ak_st b n (z 0) ≤ 13 * z 3 + ak_st b n (z' 0) ∧ 6 * z' 4 + ak_st b n (z 0) ≤ 6 * z 4 + ak_st b n (z' 0)
    omega
  · have f1 := ak_fut_fst (y := -1) ft e1 (ak_ext_trans e3 en) (Or.inl rfl)
    have f3 := ak_fut_fst (y := -1) ft ez3 en (Or.inl rfl)
    have f2 := ak_fut_snd (y := -1) f3 e1 e3 (Or.inl rfl)
    have h127 : ((z' 7 : Nat) : Int) ≤ M2 127 p := ft.2.1.2
    obtain ⟨⟨a1, a2, a3, a4, a5⟩, -, -⟩ := ft
    have b1 := a1 (z' 1) lz3.2.1 (Nat.lt_succ_self _)
    have c5 : ∀ q, 114 ≤ q → q ≤ 118 → M2 q (9000 * p + z' 2) = (ak_four (ak_node hm' p (z' 2) nk 0) (9000 * p + z' 2) x1 x (kk : Int) s).1 q (9000 * p + z' 2) := fun q q1 q2 => a5 q _ q1 (by omega) (by omega) (by show 9000 * p + z' 2 < 9000 * p + (z' 2 + 1); omega) (by omega)
    have g114 := (c5 114 (by decide) (by decide)).trans e114
    have g115 := (c5 115 (by decide) (by decide)).trans e115
    have g116 := (c5 116 (by decide) (by decide)).trans e116
    have g117 := (c5 117 (by decide) (by decide)).trans e117
    have g118 := (c5 118 (by decide) (by decide)).trans e118
    intro k i hk2 hi
    have hi' : z' 2 + 1 - z 2 ≤ i := hi
    have le1 := ak_ext_le e1
    have le3 := ak_ext_le e3
    have hx : 7 * (20 - o) + 4 ≤ k := hk2
    have hH : kk = 0 ∨ ak_hx 222 (o + 1) + 4 ≤ k := by
      have e2 : ak_hx 222 (o + 1) = 7 * (20 - (o + 1)) + 7 := rfl
      rcases hk.2 with q | q
      · exact Or.inl q
      · exact Or.inr (by omega)
    rcases hr with ⟨h1, h2, h3, h4, h5⟩ | ⟨h1, h2, h3⟩
    · refine ak_T3_fold ⟨_, rfl, ⟨by omega, by omega⟩, Or.inr (Or.inr (Or.inr (Or.inr (Or.inr (Or.inr (Or.inr (Or.inr (Or.inl ⟨g114.trans h1, z1 1, z' 1, kk, z1 2 - z 2, z' 2 - z1 2, ak_hx 222 (o + 1), ⟨by omega, hH, ?_⟩, g117, hk.1, ?_, (b1.1.trans o1).trans h2, ?_, ?_, ?_, rfl⟩))))))))⟩
      · rw [g115]; exact T1 C2 M2 f1 k _ hk2 (Nat.le_refl _)
      · rw [g116]; exact T3 C2 M2 f2 _ (Nat.le_refl _)
      · rw [g118]; exact (b1.2.trans o2).trans h3
      · rw [g118]; exact h4
      · rw [g118]; exact Int.lt_of_lt_of_le h5 h127
    · refine ak_T3_fold ⟨_, rfl, ⟨by omega, by omega⟩, Or.inr (Or.inr (Or.inr (Or.inr (Or.inr (Or.inr (Or.inr (Or.inr (Or.inr (Or.inl ⟨g114.trans h1, z1 1, z' 1, kk, z1 2 - z 2, z' 2 - z1 2, ak_hx 222 (o + 1), ⟨by omega, hH, ?_⟩, g117, hk.1, ?_, (b1.1.trans o1).trans h2, (b1.2.trans o2).trans h3, rfl⟩)))))))))⟩
      · rw [g115]; exact T1 C2 M2 f1 k _ hk2 (Nat.le_refl _)
      · rw [g116]; exact T3 C2 M2 f2 _ (Nat.le_refl _)
theorem lk_chain {ρ0 ρ3 ρ4 t : Nat} (hu : u = 0 ∨ u = 1) (hX : ∀ t', t' < t → ak_EX e u p b n m ρ0 ρ3 ρ4 ρ 34 222 13 13 t') (hE : ak_EX e u p b n m ρ0 ρ3 ρ4 ρ 44 228 8 8 t) : ak_EX e u p b n m ρ0 ρ3 ρ4 ρ 39 227 9 9 t := by
  intro lv D o Mt z hc hm d w pt ht
  have loop : ∀ (c : Nat) (z1 : Nat → Nat) (x1 : Int) (hc1 hm1 : ak_S) (nn : Nat), ak_XP 227 u p b n m lv D o Mt z hc hm z1 x1 hc1 hm1 → m ≤ z1 0 + c → nn + 1 ≤ z1 0 →
      (∀ (Q : Int → ak_S → Prop) (X : Nat → ak_S → Prop), ak_W0 e 1 (d + 20 * (20 - o) + 8) 227 ρ 5 [some (am_r 110), some (am_i x1), none, none, none, none] [] hm1 (ak_qi Q X) → ak_MI e 1 (d + 20 * (20 - o) + 9) ρ 227 [am_r 110] hm Q X) →
      ak_W0 e 0 (d + 20 * (20 - o) + 8) 39 [ρ0, ak_T u, ak_T u + 1, ρ3, ρ4] 7 [some (am_r 2), some (am_i (o : Int)), some (am_i (nn : Int))] [] hc1 (ak_qv (ak_XQ e ρ (d + 20 * (20 - o) + 9) 227 u p b n m lv D o Mt z hc hm) (ak_XX e ρ (d + 20 * (20 - o) + 9) 227 u p hc hm)) := by
    intro c
    induction c with
    | zero =>
      intro z1 x1 hc1 hm1 nn P1 hc0 hnn G
      obtain ⟨I1, l1, r1, e1, T1⟩ := P1
      have hkC := I1.1.2.2.2.2.1
      have tk := I1.2.1.2.2.1
      have h1m := I1.1.1.1
      have h6 := I1.1.1.2.1
      have h0 : ak_kd b n (ak_st b n (z1 0)) = 0 := by
        have e0 : z1 0 = m := by omega
        rw [e0, I1.1.1.2.2.1]
        unfold ak_kd
        rw [if_pos (by omega)]
      refine am_k39_7 hu ⟨fun q => absurd q (by omega), fun _ => ?_⟩
      rw [hkC, h0]
      refine ⟨fun q => absurd q (by decide), fun _ => ⟨fun _ => ⟨z1, x1, hm1, ⟨I1, l1, r1, e1, T1⟩, fun Q X q => G Q X (am_k227_5 (am_s206 (fun _ => ⟨fun q => absurd rfl q, fun _ => ?_⟩) (fun q => absurd q (by have := I1.2.2.1; omega))))⟩, fun q => absurd q (by decide)⟩⟩
      rw [tk, h0]
      exact ⟨fun q => absurd q (by decide), fun _ => ⟨fun _ => q, fun q => absurd q (by decide)⟩⟩
    | succ c ih =>
      intro z1 x1 hc1 hm1 nn P1 hc0 hnn G
      obtain ⟨I1, l1, r1, e1, T1⟩ := id P1
      have hkC := I1.1.2.2.2.2.1
      have tk := I1.2.1.2.2.1
      have hf := I1.2.2.1
      have h1m := I1.1.1.1
      have h6 := I1.1.1.2.1
      have hst := (ak_st_n I1).1
      have pt1 := ak_POT_REL pt r1
      -- behind the arguments
      have next : ∀ (nk r v s : Int) (kk : Nat) (z' : Nat → Nat) (x : Int) (hcP hm' : ak_S), ak_AP u p b n m lv D o Mt z1 hc1 hm1 z' kk x hcP hm' → ((nk = 9 ∧ r = 17 ∧ v = s * 8 + (kk : Int) ∧ 0 ≤ s ∧ s < (z' 7 : Int)) ∨ (nk = 10 ∧ r = 19 ∧ v = (kk : Int))) →
          (∀ (Q : Int → ak_S → Prop) (X : Nat → ak_S → Prop), ak_W0 e 1 (d + 20 * (20 - o) + 8) 227 ρ 121 [some (am_r 110), some (am_i x1), none, some (am_i s), some (am_i x), none] [am_i nk, am_r 110] hm' (ak_qi Q X) → ak_MI e 1 (d + 20 * (20 - o) + 9) ρ 227 [am_r 110] hm Q X) →
          ak_W0 e 0 (d + 20 * (20 - o) + 8) 39 [ρ0, ak_T u, ak_T u + 1, ρ3, ρ4] 7 [some (am_r 2), some (am_i (o : Int)), some (am_i (am_w32 ((nn : Int) + 1)))] [] (ak_put hcP u (z' 1) r v) (ak_qv (ak_XQ e ρ (d + 20 * (20 - o) + 9) 227 u p b n m lv D o Mt z hc hm) (ak_XX e ρ (d + 20 * (20 - o) + 9) 227 u p hc hm)) := by
        intro nk r v s kk z' x hcP hm' A hr Gn
        have P4 := lk_call hu pt P1 A hr
        obtain ⟨I3, l3, r3, e3, h45, hk, T3⟩ := A
        have t3 : ak_POT b n o 2 z' := by
          unfold ak_POT at pt1 ⊢
          omega
        have rm := ak_room I3 (by decide) t3
        have hp2 := I3.2.1.1.2.1
        rw [ak_wj (show nn < 1000000 by omega)]
        refine ih _ _ _ _ (nn + 1) P4 (show m ≤ z' 0 + c by omega) (show nn + 1 + 1 ≤ z' 0 by omega) (fun Q X g => Gn Q X (am_k227_121 (am_s212 I3.2.1.1.1 hp2 I3.2.2.2.2.2.2.2.2.2.1 (by omega) ?_)))
        have c45 : (ak_node hm' p (z' 2) nk 0).1 110 45 = (kk : Int) := (ak_node_at (by omega) (by omega)).trans h45
        rw [ak_natn, c45]
        exact ⟨by omega, by omega, by omega, by omega, g⟩
      refine am_k39_7 hu ⟨fun q => absurd q (by omega), fun _ => ?_⟩
      rw [hkC]
      refine ⟨fun k46 => am_k39_38 hu ⟨fun q => absurd (hkC.trans k46) q, fun _ => ?_⟩, fun n46 => ⟨fun n33 => ⟨z1, x1, hm1, P1, fun Q X g => G Q X (am_k227_5 (am_s206 (fun _ => ⟨fun q => absurd rfl q, fun _ => ?_⟩) (fun q => absurd q (by omega))))⟩, fun k33 => am_k39_38 hu ⟨fun _ => ?_, fun q => absurd (hkC.symm.trans q) n46⟩⟩⟩
      · -- a message
        have ham : z1 0 < m := ak_cc_lt I1.1 (by rw [k46]; decide)
        obtain ⟨hm2, ⟨M2, fr'⟩, rd⟩ := ak_MV_get (e := e) (r := 1) (d := d + 20 * (20 - o) + 8) (ρ := ρ) (am_rd (d := d + 20 * (20 - o) + 5) (X := ak_F) I1.2.1 hst (fun h' c f => (⟨c, f⟩ : ak_cm b n p h' (z1 0 + 1) ∧ ak_rfr hm1 h')))
        have Gm : ∀ (Q : Int → ak_S → Prop) (X : Nat → ak_S → Prop), _ → ak_MI e 1 (d + 20 * (20 - o) + 9) ρ 227 [am_r 110] hm Q X := fun Q X g => G Q X (am_k227_5 (am_s206 (fun _ => ⟨fun q => absurd rfl q, fun _ => ⟨fun _ => am_k227_30 ⟨fun q => absurd (tk.trans k46) q, fun _ => rd _ _ ⟨fun q => absurd q (by decide), fun _ => g⟩⟩, fun q => absurd (tk.trans k46) q⟩⟩) (fun q => absurd q (by omega))))
        refine ak_MV_imp (lk_msg (k := 0) (dd := d + 20 * (20 - o) + 7) (Or.inl rfl) (by omega) hu hX I1 pt1 (by omega) k46 M2 fr') (fun hc6 R => ?_) (fun ex hcx R => ?_)
        · obtain ⟨z', kk, x, hcP, hmS, hm', rfl, A, s150, hfS, goS, alt⟩ := R
          refine next 9 17 _ (z1 7 : Int) kk z' x hcP hm' A (Or.inl ⟨rfl, rfl, rfl, by omega, by omega⟩) (fun Q X g => Gm Q X (goS _ _ (am_k227_62 (am_s206 (fun _ => ⟨fun _ => ⟨fun q => absurd q (by decide), fun _ => ⟨fun q40 => ?_, fun n40 => ?_⟩⟩, fun q => absurd rfl q⟩) (fun q => absurd q (by omega))))))
          · rcases alt with ⟨-, goA⟩ | ⟨q, -, -⟩
            · exact goA _ _ (am_s206 (fun _ => ⟨fun _ => ⟨fun q => absurd q (by decide), fun _ => g⟩, fun q => absurd rfl q⟩) (fun q => absurd q (by have := A.1.2.2.1; omega)))
            · exact absurd q40 q
          · rcases alt with ⟨q, -⟩ | ⟨-, rfl, rfl⟩
            · exact absurd q n40
            · exact am_s206 (fun _ => ⟨fun _ => ⟨fun q => absurd q (by decide), fun _ => g⟩, fun q => absurd rfl q⟩) (fun q => absurd q (by have := A.1.2.2.1; omega))
        · obtain ⟨hx, R⟩ := R
          rcases R with ⟨y, hmx, wr, goS⟩ | ⟨x, hmS, hmx, hfS, t40, goS, wr, goA⟩
          · exact ⟨hx, -1, hmx, ak_WR_ext w I1 (Nat.le_refl _) e1 wr, fun Q X g => Gm Q X (goS _ _ (am_k227_62 (am_w206 wr.1 ⟨fun q => absurd q (by decide), fun _ => g⟩)))⟩
          · exact ⟨hx, -1, hmx, ak_WR_ext w I1 (Nat.le_refl _) e1 wr, fun Q X g => Gm Q X (goS _ _ (am_k227_62 (am_s206 (fun _ => ⟨fun _ => ⟨fun q => absurd q (by decide), fun _ => ⟨fun _ => goA _ _ (am_w206 wr.1 ⟨fun q => absurd q (by decide), fun _ => g⟩), fun q => absurd t40 q⟩⟩, fun q => absurd rfl q⟩) (fun q => absurd q (by omega)))))⟩
      · rw [tk]
        exact ⟨fun q => absurd q n46, fun _ => ⟨fun _ => g, fun q => absurd q n33⟩⟩
      · -- a call
        have ham : z1 0 < m := ak_cc_lt I1.1 (by rw [k33]; decide)
        have su := ak_st_up I1.1 ham
        obtain ⟨hm2, ⟨M2, fr'⟩, rd⟩ := ak_MV_get (e := e) (r := 1) (d := d + 20 * (20 - o) + 8) (ρ := ρ) (am_rd (d := d + 20 * (20 - o) + 5) (X := ak_F) I1.2.1 hst (fun h' c f => (⟨c, f⟩ : ak_cm b n p h' (z1 0 + 1) ∧ ak_rfr hm1 h')))
        refine am_adv I1.1 ham (fun hc2 C2 fr => ?_)
        have I2 := ak_PI_step hu I1 C2 fr M2 fr'
        have pt2 := ak_POT_step I1.1 ham pt1
        have es := ak_ext_step (p := p) (z := z1) hu fr fr'
        have I3 := ak_PI_cell hu I2 (q := 110) (k := 45) (v := 0) (Or.inr (by decide))
        have e3 := ak_ext_note es (k := 45) (v := 0) (Or.inr (by decide))
        have Gm : ∀ (Q : Int → ak_S → Prop) (X : Nat → ak_S → Prop), _ → ak_MI e 1 (d + 20 * (20 - o) + 9) ρ 227 [am_r 110] hm Q X := fun Q X g => G Q X (am_k227_5 (am_s206 (fun _ => ⟨fun q => absurd rfl q, fun _ => ⟨fun q => absurd (tk.symm.trans q) n46, fun _ => ⟨fun q => absurd (tk.trans k33) q, fun _ => am_k227_30 ⟨fun _ => rd _ _ ⟨fun _ => am_k227_62 (am_s206 (fun _ => ⟨fun _ => ⟨fun _ => g, fun q => absurd rfl q⟩, fun q => absurd rfl q⟩) (fun q => absurd q (by have := I2.2.2.1; omega))), fun q => absurd rfl q⟩, fun q => absurd (tk.symm.trans q) n46⟩⟩⟩⟩) (fun q => absurd q (by omega))))
        refine ak_MI_deep (Nat.le_succ _) (ak_MI_imp (lk_args (dd := d + 20 * (20 - o) + 7) (by omega) hu hX I3 pt2 (show m ≤ z1 0 + 1 + t by omega)) (fun v hc3 R => ?_) (fun ex hcx R => ?_))
        · obtain ⟨z', kk, x, hm', rfl, A, goA⟩ := R
          have A' := ak_AP_pre e3 rfl rfl rfl rfl rfl (show ak_st b n (z1 0) ≤ ak_st b n (z1 0 + 1) by omega) A
          have t3 : ak_POT b n o 2 z' := by
            have r := A'.2.2.1
            unfold ak_POT at pt1 ⊢
            omega
          have rm := ak_room A'.1 (by decide) t3
          exact am_s3 hu A'.1.2.2.2.2.2.2.2.2.1 (by omega) (next 10 19 _ 0 kk z' x hc3 hm' A' (Or.inr ⟨rfl, rfl, rfl⟩) (fun Q X g => Gm Q X (goA _ _ (am_s206 (fun _ => ⟨fun _ => ⟨fun _ => g, fun q => absurd rfl q⟩, fun q => absurd rfl q⟩) (fun q => absurd q (by have := A.1.2.2.1; omega))))))
        · obtain ⟨hx, x, hmx, wr, goA⟩ := R
          exact ⟨hx, -1, hmx, ak_WR_ext w I3 (Nat.le_refl _) (ak_ext_trans e1 e3) wr, fun Q X g => Gm Q X (goA _ _ (am_w206 wr.1 ⟨fun q => absurd q (by decide), fun _ => g⟩))⟩
  refine ak_MV_of (Nat.le_of_ble_eq_true rfl) (am_k39_0 hu (ak_MV_imp (hE lv D o Mt z hc hm d w pt ht) (fun hc1 R => ?_) (fun ex hcx R => ?_)))
  · obtain ⟨z1, x1, hm1, P1, go1⟩ := R
    exact loop (m - z1 0) z1 x1 hc1 hm1 0 (ak_XP_up (g := 227) (g2 := 228) (Nat.le_refl _) P1) (by omega) (by have := P1.2.1; omega) (fun Q X g => ak_MI_of (Nat.le_of_ble_eq_true rfl) (am_k227_0 (go1 _ _ g)))
  · obtain ⟨hx, x1, hmx, wr, go1⟩ := R
    exact ⟨hx, x1, hmx, wr, fun Q X q => ak_MI_of (Nat.le_of_ble_eq_true rfl) (am_k227_0 (go1 _ _ (am_k227_5 (am_w206 wr.1 ⟨fun _ => q, fun q => absurd q (by decide)⟩))))⟩
end LKCH
