/-! arguments -/
section LKAR
variable {e : ak_X3} {d u p : Nat} {b : Nat → Int} {n m lv o Mt : Nat} {D : Nat → Nat} {z z1 : Nat → Nat} {hc hm hc1 hm1 : ak_S} {ρ : List Nat}
/-- arguments: H values for each -/
def ak_X1 (C M : Nat → Nat → Int) (T p H lt J : Nat) (x : Int) (k a c : Nat) : Prop := ∀ i : Nat, J ≤ i → ak_T3 C M T p 1 x k (lt + 1000 * H) i a c
/-- what is had behind arguments: k of them, the list x -/
def ak_AP (u p : Nat) (b : Nat → Int) (n m lv : Nat) (D : Nat → Nat) (o Mt : Nat) (z : Nat → Nat) (hc hm : ak_S) (z' : Nat → Nat) (k : Nat) (x : Int) (hc' hm' : ak_S) : Prop :=
  ak_PI u p b n m lv D o Mt z' hc' hm' ∧ z 0 < z' 0 ∧ (2 * z' 1 + 6 + 3 * ak_st b n (z 0) + z 5 ≤ 2 * z 1 + 3 * ak_st b n (z' 0) + z' 5 ∧ z' 2 + 1 + ak_st b n (z 0) ≤ z 2 + ak_st b n (z' 0) ∧ 13 * z' 3 + ak_st b n (z 0) ≤ 13 * z 3 + ak_st b n (z' 0) ∧ 6 * z' 4 + ak_st b n (z 0) ≤ 6 * z 4 + ak_st b n (z' 0)) ∧
  ak_ext u p z z' hc hm hc' hm' ∧ hm'.1 110 45 = (k : Int) ∧ (k ≤ 4 ∧ (k = 0 ∨ o < 20)) ∧ ∀ C M, ak_fut u p z z' (-1) hc'.1 hm'.1 C M → ak_X1 C M (ak_T u) p (ak_hx 222 (o + 1)) (ak_lt Mt lv) (z' 2 - z 2) x k (z 1) (z' 1)
def ak_AQ (e : ak_X3) (ρ : List Nat) (dm u p : Nat) (b : Nat → Int) (n m lv : Nat) (D : Nat → Nat) (o Mt : Nat) (z : Nat → Nat) (hc hm : ak_S) (v : Int) (hc' : ak_S) : Prop :=
  ∃ (z' : Nat → Nat) (k : Nat) (x : Int) (hm' : ak_S), v = (k : Int) ∧ ak_AP u p b n m lv D o Mt z hc hm z' k x hc' hm' ∧ ak_goI e dm ρ 221 [am_r 110] hm x hm'
theorem ak_X1_no {u p H lt : Nat} (C M : Nat → Nat → Int) (J c : Nat) : ak_X1 C M (ak_T u) p H lt J (-1) 0 c c := fun i _ => ak_T3_fold (Or.inl ⟨rfl, rfl, rfl⟩)
theorem lk_args1 {ρ0 ρ3 ρ4 t : Nat} (hu : u = 0 ∨ u = 1) (hE : ∀ t', t' < t → ak_EX e u p b n m ρ0 ρ3 ρ4 ρ 34 222 13 13 t') (w : ak_PI u p b n m lv D o Mt z hc hm) (pt : ak_POT b n o 2 z) (ht : m ≤ z 0 + t) (k40 : ak_kd b n (ak_st b n (z 0)) = 40) (ho : o < 20) :
    ak_MI e 0 (d + 20 * (20 - (o + 1)) + 14) [ρ0, ak_T u, ak_T u + 1, ρ3, ρ4] 41 [am_r 2, am_i (o : Int)] hc (ak_AQ e ρ (d + 20 * (20 - (o + 1)) + 15) u p b n m lv D o Mt z hc hm) (ak_XX e ρ (d + 20 * (20 - (o + 1)) + 15) 221 u p hc hm) := by
  have hT := ak_T_in hu
  have ham : z 0 < m := ak_cc_lt w.1 (by rw [k40]; decide)
  have hf := w.2.2.1
  have hst := (ak_st_n w).1
  have su := ak_st_up w.1 ham
  -- the end
  have fin : ∀ (k : Nat) (z1 : Nat → Nat) (x1 x2 : Int) (hc1 hm1 : ak_S), ak_PI u p b n m lv D (o + 1) Mt z1 hc1 hm1 → z 0 < z1 0 → ak_ext u p z z1 hc hm hc1 hm1 → (2 * z1 1 + 3 + 3 * ak_st b n (z 0) + z 5 ≤ 2 * z 1 + 3 * ak_st b n (z1 0) + z1 5 ∧ z1 2 + ak_st b n (z 0) ≤ z 2 + ak_st b n (z1 0) ∧ 13 * z1 3 + ak_st b n (z 0) ≤ 13 * z 3 + ak_st b n (z1 0) ∧ 6 * z1 4 + ak_st b n (z 0) ≤ 6 * z 4 + ak_st b n (z1 0)) →
      k ≤ 4 → ak_LS u p (fun C M => ak_X1 C M (ak_T u) p (ak_hx 222 (o + 1)) (ak_lt Mt lv)) z z1 hc1 hm1 k x1 x2 → (∀ (Q : Int → ak_S → Prop) (X : Nat → ak_S → Prop), ak_W0 e 1 (d + 20 * (20 - (o + 1)) + 14) 221 ρ 35 [some (am_r 110), some (am_i x1), some (am_i x2), some (am_i (k : Int)), some (am_i 0), none, none] [] hm1 (ak_qi Q X) → ak_MI e 1 (d + 20 * (20 - (o + 1)) + 15) ρ 221 [am_r 110] hm Q X) →
      ak_W0 e 0 (d + 20 * (20 - (o + 1)) + 13) 41 [ρ0, ak_T u, ak_T u + 1, ρ3, ρ4] 27 [some (am_r 2), some (am_i (o : Int)), some (am_i (k : Int)), some (am_i 0)] [] hc1 (ak_qi (ak_AQ e ρ (d + 20 * (20 - (o + 1)) + 15) u p b n m lv D o Mt z hc hm) (ak_XX e ρ (d + 20 * (20 - (o + 1)) + 15) 221 u p hc hm)) := by
    intro k z1 x1 x2 hc1 hm1 I1 l1 e1 r1 hk L1 G
    have hst1 := (ak_st_n I1).1
    refine am_k41_27 hu ⟨fun _ => am_s11 hu I1.1 (by decide) (fun k41 hc2 C2 fr2 => ?_) (fun no => ?_), fun q => absurd rfl q⟩
    · have ham1 : z1 0 < m := ak_cc_lt I1.1 (by rw [k41]; decide)
      have su1 := ak_st_up I1.1 ham1
      obtain ⟨hm3, ⟨hm2, M2, fr', rfl⟩, rd⟩ := ak_MV_get (e := e) (r := 1) (d := d + 20 * (20 - (o + 1)) + 14) (ρ := ρ) (am_s211 (d := d + 20 * (20 - (o + 1)) + 9) (X := ak_F) (Q := fun h => ∃ h', ak_cm b n p h' (z1 0 + 1) ∧ ak_rfr hm1 h' ∧ h = (am_up h'.1 110 38 (o : Int), h'.2)) I1.2.2.1 I1.2.1 hst1 I1.2.2.2.1.1 (by omega) (fun _ h' c f => ⟨h', c, f, rfl⟩) (fun q => absurd k41 q))
      have I2 := ak_PI_step hu I1 C2 fr2 M2 fr'
      have I3 := ak_PI_cell hu (ak_PI_open I2 (o' := o) (by omega) (ak_lvo w)) (q := 110) (k := 45) (v := (k : Int)) (Or.inr (by decide))
      have e2 := ak_ext_note (ak_ext_note (ak_ext_step (p := p) (z := z1) hu fr2 fr') (k := 38) (v := (o : Int)) (Or.inl (by decide))) (k := 45) (v := (k : Int)) (Or.inr (by decide))
      have L2 := ak_LS_fr L1 e1 e2 rfl
      refine ⟨_, k, x1, _, rfl, ⟨I3, show z 0 < z1 0 + 1 by omega, ?_, ak_ext_trans e1 e2, (show am_up (am_up hm2.1 110 38 (o : Int)) 110 45 (k : Int) 110 45 = _ from ak_up_eq), ⟨hk, Or.inr ho⟩, fun C M ft => ak_LS_end L2 ak_X1_no ft⟩, fun Q X g => G Q X (am_k221_35 ⟨fun _ => rd _ _ g, fun q => absurd rfl q⟩)⟩
      show 2 * z1 1 + 6 + 3 * ak_st b n (z 0) + z 5 ≤ 2 * z 1 + 3 * ak_st b n (z1 0 + 1) + z1 5 ∧ z1 2 + 1 + ak_st b n (z 0) ≤ z 2 + ak_st b n (z1 0 + 1) ∧ 13 * z1 3 + ak_st b n (z 0) ≤ 13 * z 3 + ak_st b n (z1 0 + 1) ∧ 6 * z1 4 + ak_st b n (z 0) ≤ 6 * z 4 + ak_st b n (z1 0 + 1)
      omega
    · have ptx : ak_POT b n (o + 1) 2 z1 := by
        unfold ak_POT at pt ⊢
        omega
      refine ⟨rfl, x1, _, ak_WR_ext w I1 (Nat.le_succ _) e1 (ak_WR_up (ak_WR_up (ak_WR_at (by decide) I1 ptx) (k := 38) (v := (o : Int)) (Or.inl rfl)) (k := 45) (v := (k : Int)) (Or.inr rfl)), fun Q X g => G Q X (am_k221_35 ⟨fun _ => am_s211 I1.2.2.1 I1.2.1 hst1 I1.2.2.2.1.1 (by omega) (fun q => absurd q no) (fun _ => g), fun q => absurd rfl q⟩)⟩
  -- one more
  have more : ∀ (c k : Nat) (z1 : Nat → Nat) (x1 x2 : Int) (hc1 hm1 : ak_S), k + c = 4 → ak_PI u p b n m lv D (o + 1) Mt z1 hc1 hm1 → z 0 < z1 0 → ak_ext u p z z1 hc hm hc1 hm1 → (2 * z1 1 + 3 + 3 * ak_st b n (z 0) + z 5 ≤ 2 * z 1 + 3 * ak_st b n (z1 0) + z1 5 ∧ z1 2 + 1 + ak_st b n (z 0) ≤ z 2 + ak_st b n (z1 0) ∧ 13 * z1 3 + ak_st b n (z 0) ≤ 13 * z 3 + ak_st b n (z1 0) ∧ 6 * z1 4 + ak_st b n (z 0) ≤ 6 * z 4 + ak_st b n (z1 0)) →
      ak_LS u p (fun C M => ak_X1 C M (ak_T u) p (ak_hx 222 (o + 1)) (ak_lt Mt lv)) z z1 hc1 hm1 k x1 x2 → (∀ (Q : Int → ak_S → Prop) (X : Nat → ak_S → Prop), ak_W0 e 1 (d + 20 * (20 - (o + 1)) + 14) 221 ρ 35 [some (am_r 110), some (am_i x1), some (am_i x2), some (am_i (k : Int)), some (am_i 1), none, none] [] hm1 (ak_qi Q X) → ak_MI e 1 (d + 20 * (20 - (o + 1)) + 15) ρ 221 [am_r 110] hm Q X) →
      ak_W0 e 0 (d + 20 * (20 - (o + 1)) + 13) 41 [ρ0, ak_T u, ak_T u + 1, ρ3, ρ4] 27 [some (am_r 2), some (am_i (o : Int)), some (am_i (k : Int)), some (am_i 1)] [] hc1 (ak_qi (ak_AQ e ρ (d + 20 * (20 - (o + 1)) + 15) u p b n m lv D o Mt z hc hm) (ak_XX e ρ (d + 20 * (20 - (o + 1)) + 15) 221 u p hc hm)) := by
    intro c
    induction c with
    | zero =>
      intro k z1 x1 x2 hc1 hm1 hkc I1 l1 e1 r1 L1 G
      have k4 : k = 4 := hkc
      subst k4
      have ptx : ak_POT b n (o + 1) 2 z1 := by
        unfold ak_POT at pt ⊢
        omega
      refine am_k41_27 hu ⟨fun q => absurd q (by decide), fun _ => ⟨fun q => absurd q (by decide), fun _ => ⟨fun _ => am_k41_46 hu (am_s10 hu (fun q => absurd rfl q) (fun _ => ?_)), fun q => absurd q (by decide)⟩⟩⟩
      have W := ak_WR_at (by decide) I1 ptx
      refine ⟨rfl, -1, ak_wr hm1, ak_WR_ext w I1 (Nat.le_succ _) e1 W, fun Q X g => G Q X (am_k221_35 ⟨fun q => absurd q (by decide), fun _ => am_s206 (fun _ => ⟨fun q => absurd rfl q, fun _ => ⟨fun q => absurd rfl q, fun _ => am_s207 (fun _ => ?_) (fun q => absurd q (by have := I1.2.2.1; omega))⟩⟩) (fun q => absurd q (by have := I1.2.2.1; omega))⟩)⟩
      exact am_k221_60 (am_w222 (h := ak_wr hm1) W.1 (am_w206 W.1 ⟨fun q => absurd q (by decide), fun _ => g⟩))
    | succ c ih =>
      intro k z1 x1 x2 hc1 hm1 hkc I1 l1 e1 r1 L1 G
      have hf1 := I1.2.2.1
      have pt1 : ak_POT b n (o + 1) 2 z1 := by
        unfold ak_POT at pt ⊢
        omega
      refine am_k41_27 hu ⟨fun q => absurd q (by decide), fun _ => ⟨fun q => absurd q (by omega), fun _ => ⟨fun q => absurd q (by omega), fun _ => am_k41_46 hu (am_s10 hu (fun _ => ?_) (fun q => absurd q (by decide)))⟩⟩⟩
      rw [ak_wj (show o < 1000000 by omega), ak_wj (show k < 1000000 by omega)]
      -- the model up to its expression
      have G1 : ∀ (Q : Int → ak_S → Prop) (X : Nat → ak_S → Prop), ak_W0 e 1 (d + 20 * (20 - (o + 1)) + 14) 221 ρ 60 [some (am_r 110), some (am_i x1), some (am_i x2), some (am_i (k : Int)), none, none, none] [] hm1 (ak_qi Q X) → ak_MI e 1 (d + 20 * (20 - (o + 1)) + 15) ρ 221 [am_r 110] hm Q X :=
        fun Q X g => G Q X (am_k221_35 ⟨fun q => absurd q (by decide), fun _ => am_s206 (fun _ => ⟨fun q => absurd rfl q, fun _ => ⟨fun _ => g, fun q => absurd q (by omega)⟩⟩) (fun q => absurd q (by omega))⟩)
      refine ak_MV_imp (hE (t - 1) (by omega) lv D (o + 1) Mt z1 hc1 hm1 d I1 pt1 (by omega)) (fun hc3 R => ?_) (fun ex hcx R => ?_)
      · obtain ⟨z3, x3, hm3, P3, go3⟩ := R
        obtain ⟨I3, l3, r3, e3, T3⟩ := id P3
        have hf3 := I3.2.2.1
        have hst3 := (ak_st_n I3).1
        have pt3 := ak_POT_REL pt1 r3
        have rm := ak_room I3 (by decide) pt3
        have le1 := ak_ext_le e1
        have le3 := ak_ext_le e3
        have hp2 := I3.2.1.1.2.1
        have N1 := ak_PI_node hu I3 (k := 0) (r := 0)
        have N2 := ak_PI_cell hu N1 (q := 115) (k := 9000 * p + z3 2) (v := x3) (Or.inl (by decide))
        have en : ak_ext u p z3 (ak_zu z3 2 (z3 2 + 1)) hc3 hm3 hc3 (am_up (ak_node hm3 p (z3 2) 0 0).1 115 (9000 * p + z3 2) x3, (ak_node hm3 p (z3 2) 0 0).2) :=
          ak_ext_cell (ak_ext_node (show z3 2 < 9000 by omega)) (by decide) (Nat.le_refl _) (by omega)
        have e13 := ak_ext_trans e3 en
        have c115 : am_up (ak_node hm3 p (z3 2) 0 0).1 115 (9000 * p + z3 2) x3 115 (9000 * p + z3 2) = x3 := by simp [am_up]
        have c119 : am_up (ak_node hm3 p (z3 2) 0 0).1 115 (9000 * p + z3 2) x3 119 (9000 * p + z3 2) = -1 := by simp [ak_node, am_up]
        have el : ∀ C M, ak_fut u p z1 (ak_zu z3 2 (z3 2 + 1)) ((9000 * p + z3 2 : Nat) : Int) hc3.1 (am_up (ak_node hm3 p (z3 2) 0 0).1 115 (9000 * p + z3 2) x3) C M → ∀ j J J' c, J + (z3 2 + 1 - z1 2) ≤ J' → ak_X1 C M (ak_T u) p (ak_hx 222 (o + 1)) (ak_lt Mt lv) J (M 119 (9000 * p + z3 2)) j (z3 1) c → ak_X1 C M (ak_T u) p (ak_hx 222 (o + 1)) (ak_lt Mt lv) J' ((9000 * p + z3 2 : Nat) : Int) (1 + j) (z1 1) c := by
          intro C M ft j J J' c hJ t3 i hi
          have f1 := ak_fut_fst (y := -1) ft e3 en (Or.inr (Or.inl (Int.le_refl _)))
          have g1 : M 115 (9000 * p + z3 2) = x3 := (ft.1.2.2.2.2 115 _ (by decide) (by decide) (by omega) (by show 9000 * p + z3 2 < 9000 * p + (z3 2 + 1); omega) (by omega)).trans c115
          have hlt := ak_lt_lt I1
          refine ak_T3_fold (Or.inr ⟨9000 * p + z3 2, j, z3 1, z3 2 - z1 2, J, rfl, Nat.add_comm 1 j, ⟨by omega, ?_⟩, t3 J (Nat.le_refl _)⟩)
          rw [g1, show (ak_lt Mt lv + 1000 * ak_hx 222 (o + 1)) / 1000 = ak_hx 222 (o + 1) by omega, show (ak_lt Mt lv + 1000 * ak_hx 222 (o + 1)) % 1000 = ak_lt Mt lv by omega]
          exact T3 C M f1 _ _ (Nat.le_refl _) (Nat.le_refl _)
        -- the node, in its list
        obtain ⟨x1', hm5, I5, e5, L5, k5, run5⟩ : ∃ (x1' : Int) (hm5 : ak_S), ak_PI u p b n m lv D (o + 1) Mt (ak_zu z3 2 (z3 2 + 1)) hc3 hm5 ∧ ak_ext u p z (ak_zu z3 2 (z3 2 + 1)) hc hm hc3 hm5 ∧ ak_LS u p (fun C M => ak_X1 C M (ak_T u) p (ak_hx 222 (o + 1)) (ak_lt Mt lv)) z (ak_zu z3 2 (z3 2 + 1)) hc3 hm5 (k + 1) x1' ((9000 * p + z3 2 : Nat) : Int) ∧ hm5.1 110 33 = hm3.1 110 33 ∧
            ∀ (Q : Int → ak_S → Prop) (X : Nat → ak_S → Prop), ak_MI e 1 (d + 20 * (20 - (o + 1)) + 14) ρ 208 [am_r 110, am_i 44] hm5 (fun v8 h7 =>
              (v8 = 0 →
                ak_W0 e 1 (d + 20 * (20 - (o + 1)) + 14) 221 ρ 35 [some (am_r 110), some (am_i x1'), some (am_i ((9000 * p + z3 2 : Nat) : Int)), some (am_i ((k + 1 : Nat) : Int)), some (am_i v8), none, none] [] h7 (ak_qi Q X))
              ∧ (v8 ≠ 0 →
                ak_MV e 1 (d + 20 * (20 - (o + 1)) + 14) ρ 205 [am_r 110] h7 (fun h9 =>
                  ak_W0 e 1 (d + 20 * (20 - (o + 1)) + 14) 221 ρ 35 [some (am_r 110), some (am_i x1'), some (am_i ((9000 * p + z3 2 : Nat) : Int)), some (am_i ((k + 1 : Nat) : Int)), some (am_i v8), none, none] [] h9 (ak_qi Q X)) (fun _ _ => False))) (fun _ _ => False) → ak_MI e 1 (d + 20 * (20 - (o + 1)) + 15) ρ 221 [am_r 110] hm Q X := by
          have base : ∀ (Q : Int → ak_S → Prop) (X : Nat → ak_S → Prop), _ → ak_MI e 1 (d + 20 * (20 - (o + 1)) + 15) ρ 221 [am_r 110] hm Q X := fun Q X g => G1 Q X (am_k221_60 ((ak_goI_up (k := 1) go3) _ _ (am_s206 (fun _ => ⟨fun _ => am_s212 I3.2.1.1.1 hp2 I3.2.2.2.2.2.2.2.2.2.1 (by omega) g, fun q => absurd rfl q⟩) (fun q => absurd q (by omega)))))
          rcases id L1 with ⟨q1, q2, q3, q4⟩ | ⟨l, g0, g1, g2, g3, g4, -⟩
          · subst q1
            refine ⟨_, _, N2, ak_ext_trans e1 e13, ak_LS_add0 L1 e1 e13 (by omega) (Nat.lt_succ_self _) c119 el, ?_, fun Q X g => base Q X ?_⟩
            · show am_up (ak_node hm3 p (z3 2) 0 0).1 115 (9000 * p + z3 2) x3 110 33 = _
              rw [ak_up_out (by omega), ak_node_at (by omega) (by omega)]
            · rw [ak_natn, ak_wj (show k < 1000000 by omega)]
              exact ⟨by omega, fun q => absurd q (by decide), fun _ => g⟩
          · subst g0
            refine ⟨x1, _, ak_PI_cell hu N2 (q := 119) (k := 9000 * p + l) (v := ((9000 * p + z3 2 : Nat) : Int)) (Or.inl (by decide)), ak_ext_cell (ak_ext_trans e1 e13) (by decide) (by omega) (by omega), ak_LS_add1 L1 e1 e13 g2 (by omega) (Nat.lt_succ_self _) c119 el, ?_, fun Q X g => base Q X ?_⟩
            · show am_up (am_up (ak_node hm3 p (z3 2) 0 0).1 115 (9000 * p + z3 2) x3) 119 (9000 * p + l) ((9000 * p + z3 2 : Nat) : Int) 110 33 = _
              rw [ak_up_out (by omega), ak_up_out (by omega), ak_node_at (by omega) (by omega)]
            · rw [ak_natn, ak_natn, ak_wj (show k < 1000000 by omega)]
              exact ⟨by omega, fun _ => ⟨by omega, g⟩, fun q => absurd q (by omega)⟩
        have hkC := I3.1.2.2.2.2.1
        have tk5 : hm5.1 110 33 = ak_kd b n (ak_st b n (z3 0)) := k5.trans I3.2.1.2.2.1
        have r3' := r3
        unfold ak_REL at r3'
        rw [hkC]
        refine ⟨fun k44 => ⟨fun _ => ?_, fun q => absurd rfl q⟩, fun k44 => ⟨fun q => absurd q (by decide), fun _ => ?_⟩⟩
        · refine fin (k + 1) (ak_zu z3 2 (z3 2 + 1)) x1' _ hc3 hm5 I5 (show z 0 < z3 0 by omega) e5 ?_ (by omega) L5 (fun Q X g => run5 Q X (am_s208 (fun _ q => absurd (tk5.symm.trans q) k44) (fun _ => ⟨fun _ => g, fun q => absurd rfl q⟩)))
          show 2 * z3 1 + 3 + 3 * ak_st b n (z 0) + z 5 ≤ 2 * z 1 + 3 * ak_st b n (z3 0) + z3 5 ∧ z3 2 + 1 + ak_st b n (z 0) ≤ z 2 + ak_st b n (z3 0) ∧ 13 * z3 3 + ak_st b n (z 0) ≤ 13 * z 3 + ak_st b n (z3 0) ∧ 6 * z3 4 + ak_st b n (z 0) ≤ 6 * z 4 + ak_st b n (z3 0)
          omega
        · have ham3 : z3 0 < m := ak_cc_lt I3.1 (by rw [k44]; decide)
          have su3 := ak_st_up I3.1 ham3
          obtain ⟨hm6, ⟨M6, fr6⟩, rd⟩ := ak_MV_get (e := e) (r := 1) (d := d + 20 * (20 - (o + 1)) + 14) (ρ := ρ) (am_rd (d := d + 20 * (20 - (o + 1)) + 11) (X := ak_F) I5.2.1 hst3 (fun h' c f => (⟨c, f⟩ : ak_cm b n p h' (z3 0 + 1) ∧ ak_rfr hm5 h')))
          refine am_adv I3.1 ham3 (fun hc6 C6 fr => ?_)
          have e56 := ak_ext_step (p := p) (z := ak_zu z3 2 (z3 2 + 1)) hu fr fr6
          refine ih (k + 1) _ x1' _ hc6 hm6 (by omega) (ak_PI_step hu I5 C6 fr M6 fr6) (show z 0 < z3 0 + 1 by omega) (ak_ext_trans e5 e56) ?_ (ak_LS_fr L5 e5 e56 rfl) (fun Q X g => run5 Q X (am_s208 (fun _ _ => ⟨fun q => absurd q (by decide), fun _ => rd _ _ g⟩) (fun q => absurd ⟨I5.2.2.1, tk5.trans k44⟩ q)))
          show 2 * z3 1 + 3 + 3 * ak_st b n (z 0) + z 5 ≤ 2 * z 1 + 3 * ak_st b n (z3 0 + 1) + z3 5 ∧ z3 2 + 1 + 1 + ak_st b n (z 0) ≤ z 2 + ak_st b n (z3 0 + 1) ∧ 13 * z3 3 + ak_st b n (z 0) ≤ 13 * z 3 + ak_st b n (z3 0 + 1) ∧ 6 * z3 4 + ak_st b n (z 0) ≤ 6 * z 4 + ak_st b n (z3 0 + 1)
          omega
      · obtain ⟨hx, x3, hmx, wr, go3⟩ := R
        exact ⟨hx, -1, hmx, ak_WR_ext w I1 (Nat.le_succ _) e1 wr, fun Q X g => G1 Q X (am_k221_60 ((ak_goI_up (k := 1) go3) _ _ (am_w206 wr.1 ⟨fun q => absurd q (by decide), fun _ => g⟩)))⟩
  -- the bracket
  obtain ⟨hm1, ⟨M1, fr1⟩, op⟩ := ak_MV_get (e := e) (r := 1) (d := d + 20 * (20 - (o + 1)) + 14) (ρ := ρ) (am_s210 (d := d + 20 * (20 - (o + 1)) + 10) (X := ak_F) hf w.2.1 hst w.2.2.2.1.1 (by omega) (fun _ _ h' c f => (⟨c, f⟩ : ak_cm b n p h' (z 0 + 1) ∧ ak_rfr (am_up hm.1 110 38 ((o + 1 : Nat) : Int), hm.2) h')) (fun no => absurd ⟨k40, ho⟩ no))
  refine ak_MI_of (Nat.le_of_ble_eq_true rfl) (am_k41_0 hu (am_s12 hu w.1 (by decide) (fun _ _ hc1 C1 fr => ?_) (fun no => absurd ⟨k40, by omega⟩ no)))
  have I1 := ak_PI_step hu (ak_PI_open w (o' := o + 1) (by omega) (Nat.le_succ_of_le (ak_lvo w))) C1 fr M1 fr1
  have e1 : ak_ext u p z (ak_zu z 0 (z 0 + 1)) hc hm hc1 hm1 := ak_ext_trans (ak_ext_note ak_ext_refl (k := 38) (v := ((o + 1 : Nat) : Int)) (Or.inl (by decide))) (ak_ext_step hu fr fr1)
  have hkC := C1.2.2.2.2.1
  have tk := M1.2.2.1
  have hf1 := I1.2.2.1
  have r1 : 2 * z 1 + 3 + 3 * ak_st b n (z 0) + z 5 ≤ 2 * z 1 + 3 * ak_st b n (z 0 + 1) + z 5 ∧ z 2 + 1 + ak_st b n (z 0) ≤ z 2 + ak_st b n (z 0 + 1) ∧ 13 * z 3 + ak_st b n (z 0) ≤ 13 * z 3 + ak_st b n (z 0 + 1) ∧ 6 * z 4 + ak_st b n (z 0) ≤ 6 * z 4 + ak_st b n (z 0 + 1) := by omega
  have L0 : ak_LS u p (fun C M => ak_X1 C M (ak_T u) p (ak_hx 222 (o + 1)) (ak_lt Mt lv)) z (ak_zu z 0 (z 0 + 1)) hc1 hm1 0 (-1) (-1) := Or.inl ⟨rfl, rfl, rfl, rfl⟩
  have G0 : ∀ (Q : Int → ak_S → Prop) (X : Nat → ak_S → Prop), _ → ak_MI e 1 (d + 20 * (20 - (o + 1)) + 15) ρ 221 [am_r 110] hm Q X := fun Q X g => ak_MI_of (Nat.le_of_ble_eq_true rfl) (am_k221_0 (op _ _ (am_s206 (fun _ => ⟨fun q => absurd rfl q, fun _ => g⟩) (fun q => absurd q (by omega)))))
  rw [hkC]
  refine ⟨fun q => ?_, fun q => ?_⟩
  · exact fin 0 _ (-1) (-1) hc1 hm1 I1 (Nat.lt_succ_self _) e1 (show 2 * z 1 + 3 + 3 * ak_st b n (z 0) + z 5 ≤ 2 * z 1 + 3 * ak_st b n (z 0 + 1) + z 5 ∧ z 2 + ak_st b n (z 0) ≤ z 2 + ak_st b n (z 0 + 1) ∧ 13 * z 3 + ak_st b n (z 0) ≤ 13 * z 3 + ak_st b n (z 0 + 1) ∧ 6 * z 4 + ak_st b n (z 0) ≤ 6 * z 4 + ak_st b n (z 0 + 1) by omega) (by decide) L0 (fun Q X g => G0 Q X ⟨fun _ => g, fun q2 => absurd (tk.trans q) q2⟩)
  · exact more 4 0 _ (-1) (-1) hc1 hm1 rfl I1 (Nat.lt_succ_self _) e1 r1 L0 (fun Q X g => G0 Q X ⟨fun q2 => absurd (tk.symm.trans q2) q, fun _ => g⟩)
end LKAR
