/-! statements up to a bracket; a body -/
section LKST
variable {e : ak_X3} {d dd u p : Nat} {b : Nat → Int} {n m lv o Mt : Nat} {D : Nat → Nat} {z : Nat → Nat} {hc hm : ak_S} {ρ : List Nat}
/-- behind a statement's STEP: what is had -/
def ak_KP (u p : Nat) (b : Nat → Int) (n m lv : Nat) (D : Nat → Nat) (o Mt : Nat) (z : Nat → Nat) (hc hm : ak_S) (D' z' : Nat → Nat) (y : Nat) (hc' hm' : ak_S) : Prop :=
  ak_PI u p b n m lv D' o Mt z' hc' hm' ∧ z 0 < z' 0 ∧ (2 * z' 1 + 2 + 3 * ak_st b n (z 0) + z 5 ≤ 2 * z 1 + 3 * ak_st b n (z' 0) + z' 5 ∧ z' 2 + ak_st b n (z 0) ≤ z 2 + ak_st b n (z' 0) ∧ 13 * z' 3 + ak_st b n (z 0) ≤ 13 * z 3 + ak_st b n (z' 0) ∧ 6 * z' 4 + ak_st b n (z 0) ≤ 6 * z 4 + ak_st b n (z' 0)) ∧
  ak_ext u p z z' hc hm hc' hm' ∧ (∀ s, s < lv → D' s = D s) ∧ z 2 ≤ y ∧ y < z' 2 ∧ hm'.1 119 (9000 * p + y) = -1 ∧ hm'.1 120 (9000 * p + y) = ((ak_st b n (z 0) : Nat) : Int) ∧ ∀ C M, ak_fut u p z z' ((9000 * p + y : Nat) : Int) hc'.1 hm'.1 C M → ak_X4 C M (ak_T u) p o (z' 2 - z 2) ((9000 * p + y : Nat) : Int) (ak_lt Mt lv) (z 1) (z' 1)
def ak_KQ (e : ak_X3) (ρ : List Nat) (dm u p : Nat) (b : Nat → Int) (n m lv : Nat) (D : Nat → Nat) (o Mt : Nat) (z : Nat → Nat) (hc hm hc' : ak_S) : Prop :=
  ∃ (D' z' : Nat → Nat) (y : Nat) (hm' : ak_S), ak_KP u p b n m lv D o Mt z hc hm D' z' y hc' hm' ∧ ak_goI e dm ρ 233 [am_r 110] hm ((9000 * p + y : Nat) : Int) hm'
def ak_XXs (e : ak_X3) (ρ : List Nat) (dm g u p : Nat) (hc hm : ak_S) (ex : Nat) (hc' : ak_S) : Prop := ex = 0 ∧ ∃ (x : Int) (hm' : ak_S), ak_WRs u p hc hm hc' hm' ∧ ak_goI e dm ρ g [am_r 110] hm x hm'
/-- a statement -/
def ak_YP (u p : Nat) (b : Nat → Int) (n m lv : Nat) (D : Nat → Nat) (o Mt : Nat) (z : Nat → Nat) (hc hm : ak_S) (D' z' : Nat → Nat) (y : Nat) (hc' hm' : ak_S) : Prop :=
  ak_PI u p b n m lv D' o Mt z' hc' hm' ∧ z 0 < z' 0 ∧ ak_REL b n 0 z z' ∧ ak_ext u p z z' hc hm hc' hm' ∧ (∀ s, s < lv → D' s = D s) ∧ z 2 ≤ y ∧ y < z' 2 ∧ hm'.1 119 (9000 * p + y) = -1 ∧
    ∀ C M, ak_fut u p z z' ((9000 * p + y : Nat) : Int) hc'.1 hm'.1 C M → C (ak_T u + 2) (z 1) = 26 ∧ C (ak_T u + 3) (z 1) = M 120 (9000 * p + y) ∧ ak_X4 C M (ak_T u) p o (z' 2 - z 2) ((9000 * p + y : Nat) : Int) (ak_lt Mt lv) (z 1 + 1) (z' 1)
def ak_YX (e : ak_X3) (u p : Nat) (b : Nat → Int) (n m ρ0 ρ3 ρ4 : Nat) (ρ : List Nat) (t : Nat) : Prop :=
  ∀ (lv : Nat) (D : Nat → Nat) (o Mt : Nat) (z : Nat → Nat) (hc hm : ak_S) (d : Nat), ak_PI u p b n m lv D o Mt z hc hm → ak_POT b n o 0 z → m ≤ z 0 + t →
    ak_MV e 0 (d + 20 * (20 - o) + 25) [ρ0, ak_T u, ak_T u + 1, ρ3, ρ4] 22 [am_r 2, am_i (o : Int)] hc
      (fun hc' => ∃ (D' z' : Nat → Nat) (y : Nat) (hm' : ak_S), ak_YP u p b n m lv D o Mt z hc hm D' z' y hc' hm' ∧ ak_goI e (d + 20 * (20 - o) + 25) ρ 233 [am_r 110] hm ((9000 * p + y : Nat) : Int) hm')
      (ak_XXs e ρ (d + 20 * (20 - o) + 25) 233 u p hc hm)
theorem ak_X2_no {lt o : Nat} (ho : o ≤ 20) (C M : Nat → Nat → Int) (J c : Nat) : ak_X2 C M (ak_T u) p o J (-1) lt c c := fun G i _ _ hi => ak_T3_fold ⟨by omega, Or.inl ⟨rfl, rfl⟩⟩
theorem lk_stmts {ρ0 ρ3 ρ4 t : Nat} (hu : u = 0 ∨ u = 1) (hY : ak_YX e u p b n m ρ0 ρ3 ρ4 ρ t) : ak_SX e u p b n m ρ0 ρ3 ρ4 ρ t := by
  intro lv D o Mt z hc hm d cl w pt ht hcl h1
  have hp2 := w.2.1.1.2.1
  have loop : ∀ (c : Nat) (z1 D1 : Nat → Nat) (x1 x2 : Int) (hc1 hm1 : ak_S) (nn : Nat), ak_PI u p b n m lv D1 o Mt z1 hc1 hm1 → z 0 ≤ z1 0 → ak_REL b n 0 z z1 → ak_ext u p z z1 hc hm hc1 hm1 → (∀ s, s < lv → D1 s = D s) → ak_LS u p (fun C M J x _ a c => ak_X2 C M (ak_T u) p o J x (ak_lt Mt lv) a c) z z1 hc1 hm1 0 x1 x2 → m + 1 ≤ z1 0 + c → nn + 1 ≤ z1 0 →
      (∀ (Q : Int → ak_S → Prop) (X : Nat → ak_S → Prop), ak_W0 e 1 (d + 20 * (20 - o) + 25) 231 ρ 4 [some (am_r 110), some (am_i cl), some (am_i x1), some (am_i x2), none] [] hm1 (ak_qi Q X) → ak_MI e 1 (d + 20 * (20 - o) + 26) ρ 231 [am_r 110, am_i cl] hm Q X) →
      ak_W0 e 0 (d + 20 * (20 - o) + 25) 21 [ρ0, ak_T u, ak_T u + 1, ρ3, ρ4] 2 [some (am_r 2), some (am_i cl), some (am_i (o : Int)), some (am_i (nn : Int))] [] hc1 (ak_qv (fun hc' => ∃ (D' z' : Nat → Nat) (x : Int) (hcB hm' : ak_S), ak_SP u p b n m lv D o Mt z hc hm D' z' x hcB hm' ∧ ak_kd b n (ak_st b n (z' 0)) = cl ∧ ak_cc b n m hc' (z' 0 + 1) ∧ ak_afr hcB hc' ∧ ak_goI e (d + 20 * (20 - o) + 26) ρ 231 [am_r 110, am_i cl] hm x hm')
      (fun ex hc' => ex = 0 ∧ ∃ (x : Int) (hm' : ak_S), ak_WRs u p hc hm hc' hm' ∧ ak_goI e (d + 20 * (20 - o) + 26) ρ 231 [am_r 110, am_i cl] hm x hm')) := by
    intro c
    induction c with
    | zero =>
      intro z1 D1 x1 x2 hc1 hm1 nn I1 l1 r1 e1 d1 L1 hc0 hnn G
      have := I1.1.1.1
      omega
    | succ c ih =>
      intro z1 D1 x1 x2 hc1 hm1 nn I1 l1 r1 e1 d1 L1 hc0 hnn G
      have hkC := I1.1.2.2.2.2.1
      have tk := I1.2.1.2.2.1
      have hf := I1.2.2.1
      have h1m := I1.1.1.1
      have h6 := I1.1.1.2.1
      refine am_k21_2 hu ⟨fun q => absurd q (by omega), fun _ => ?_⟩
      rw [hkC]
      refine ⟨fun keq => am_s11 hu I1.1 (by omega) (fun hk hc2 C2 fr => ⟨D1, z1, x1, hc1, hm1, ⟨I1, l1, r1, e1, d1, fun C M ft => ak_LS_end L1 (ak_X2_no (ak_st_n w).2.2.1) ft⟩, keq, C2, fr, fun Q X g => G Q X (am_k231_4 (am_s206 (fun _ => ⟨fun q => absurd rfl q, fun _ => ⟨fun _ => g, fun q => absurd (tk.trans keq) q⟩⟩) (fun q => absurd q (by omega))))⟩) (fun no => absurd keq no), fun kne => ?_⟩
      have pt1 : ak_POT b n o 0 z1 := ak_POT_REL pt r1
      have G1 : ∀ (Q : Int → ak_S → Prop) (X : Nat → ak_S → Prop), ak_MI e 1 (d + 20 * (20 - o) + 25) ρ 233 [am_r 110] hm1 (fun v4 h3 =>
          ak_MI e 1 (d + 20 * (20 - o) + 25) ρ 206 [am_r 110] h3 (fun v6 h5 =>
            (v6 = 0 →
              (0 ≤ x1 →
                (0 ≤ x2 ∧ x2 < (18000 : Int)) ∧ ak_W0 e 1 (d + 20 * (20 - o) + 25) 231 ρ 4 [some (am_r 110), some (am_i cl), some (am_i x1), some (am_i v4), none] [] ((am_up h5.1 119 x2.toNat v4), h5.2) (ak_qi Q X))
              ∧ (x1 < 0 →
                ak_W0 e 1 (d + 20 * (20 - o) + 25) 231 ρ 4 [some (am_r 110), some (am_i cl), some (am_i v4), some (am_i v4), none] [] h5 (ak_qi Q X)))
            ∧ (v6 ≠ 0 →
              Q ((-1)) h5)) (fun _ _ => False)) (fun _ _ => False) → ak_MI e 1 (d + 20 * (20 - o) + 26) ρ 231 [am_r 110, am_i cl] hm Q X :=
        fun Q X g => G Q X (am_k231_4 (am_s206 (fun _ => ⟨fun q => absurd rfl q, fun _ => ⟨fun q => absurd (tk.symm.trans q) kne, fun _ => g⟩⟩) (fun q => absurd q (by omega))))
      rw [ak_wj (show nn < 1000000 by omega)]
      refine ak_MV_imp (hY lv D1 o Mt z1 hc1 hm1 d I1 pt1 (by omega)) (fun hc2 R => ?_) (fun ex hcx R => ?_)
      · obtain ⟨D2, z2, y, hm2, ⟨I2, l2, r2, e2, d2, y1, y2, n119, T2⟩, go2⟩ := R
        have hf2 := I2.2.2.1
        have rm := ak_room I2 (by decide) (ak_POT_REL pt1 r2)
        have le1 := ak_ext_le e1
        have r12 : ak_REL b n 0 z z2 := by
          unfold ak_REL at r1 r2 ⊢
          omega
        have el : ∀ C M, ak_fut u p z1 z2 ((9000 * p + y : Nat) : Int) hc2.1 hm2.1 C M → ∀ (j J J' c : Nat), J + (z2 2 - z1 2) ≤ J' → ak_X2 C M (ak_T u) p o J (M 119 (9000 * p + y)) (ak_lt Mt lv) (z2 1) c → ak_X2 C M (ak_T u) p o J' ((9000 * p + y : Nat) : Int) (ak_lt Mt lv) (z1 1) c := by
          intro C M ft j J J' c hJ t3 Gd i hG hG2 hi
          obtain ⟨o1, o2, o3⟩ := T2 C M ft
          have ho := (ak_st_n w).2.2.1
          exact ak_T3_fold ⟨by omega, Or.inr ⟨9000 * p + y, z2 1, i - 1, i, rfl, o1, o2, ⟨by omega, Nat.le_refl _, o3 Gd (i - 1) hG hG2 (by omega)⟩, t3 Gd i hG hG2 (by omega)⟩⟩
        have d12 : ∀ s, s < lv → D2 s = D s := fun s hs => (d2 s hs).trans (d1 s hs)
        rcases id L1 with ⟨q1, q2, q3, q4⟩ | ⟨l, g0, g1, g2, g3, g4, -⟩
        · subst q1
          refine ih z2 D2 _ _ hc2 hm2 (nn + 1) I2 (by omega) r12 (ak_ext_trans e1 e2) d12 (ak_LS_add0 (dk := 0) L1 e1 e2 y1 y2 n119 el) (by omega) (by omega) (fun Q X g => G1 Q X (go2 _ _ (am_s206 (fun _ => ⟨fun _ => ⟨fun q => absurd q (by decide), fun _ => g⟩, fun q => absurd rfl q⟩) (fun q => absurd q (by omega)))))
        · subst g0
          refine ih z2 D2 x1 _ hc2 _ (nn + 1) (ak_PI_cell hu I2 (q := 119) (k := 9000 * p + l) (v := ((9000 * p + y : Nat) : Int)) (Or.inl (by decide))) (by omega) r12 (ak_ext_cell (ak_ext_trans e1 e2) (by decide) (by omega) (by omega)) d12 (ak_LS_add1 (dk := 0) L1 e1 e2 g2 y1 y2 n119 el) (by omega) (by omega) (fun Q X g => G1 Q X (go2 _ _ (am_s206 (fun _ => ⟨fun _ => ⟨fun _ => ?_, fun q => absurd q (by omega)⟩, fun q => absurd rfl q⟩) (fun q => absurd q (by omega)))))
          rw [ak_natn]
          exact ⟨by omega, g⟩
      · obtain ⟨hx, x, hmx, wr, go⟩ := R
        exact ⟨hx, -1, hmx, ak_WRs_ext w I1 (Nat.le_refl _) e1 wr, fun Q X g => G1 Q X (go _ _ (am_w206 wr.1 ⟨fun q => absurd q (by decide), fun _ => g⟩))⟩
  have r0 : ak_REL b n 0 z z := by unfold ak_REL; omega
  exact ak_MV_of (Nat.le_of_ble_eq_true rfl) (am_k21_0 hu (loop (m + 1 - z 0) z D (-1) (-1) hc hm 0 w (Nat.le_refl _) r0 ak_ext_refl (fun _ _ => rfl) (Or.inl ⟨rfl, rfl, rfl, rfl⟩) (by omega) (by omega) (fun Q X g => ak_MI_of (Nat.le_of_ble_eq_true rfl) (am_k231_0 g))))
/-- a body -/
def ak_BP (u p : Nat) (b : Nat → Int) (n m lv : Nat) (D : Nat → Nat) (o Mt : Nat) (z : Nat → Nat) (hc hm : ak_S) (D' z' : Nat → Nat) (x : Int) (hc' hm' : ak_S) : Prop :=
  ak_PI u p b n m lv D' o Mt z' hc' hm' ∧ z 0 < z' 0 ∧ (2 * z' 1 + 6 + 3 * ak_st b n (z 0) + z 5 ≤ 2 * z 1 + 3 * ak_st b n (z' 0) + z' 5 ∧ z' 2 + 2 + ak_st b n (z 0) ≤ z 2 + ak_st b n (z' 0) ∧ 13 * z' 3 + 2 + ak_st b n (z 0) ≤ 13 * z 3 + ak_st b n (z' 0) ∧ 6 * z' 4 + 2 + ak_st b n (z 0) ≤ 6 * z 4 + ak_st b n (z' 0)) ∧
  ak_ext u p z z' hc hm hc' hm' ∧ (∀ s, s < lv → D' s = D s) ∧ ∀ C M, ak_fut u p z z' (-1) hc'.1 hm'.1 C M → ak_X2 C M (ak_T u) p (o + 1) (z' 2 - z 2) x (ak_lt Mt lv) (z 1) (z' 1)
theorem lk_body {ρ0 ρ3 ρ4 t : Nat} (hd : 20 * (20 - o) + 6 ≤ dd) (hu : u = 0 ∨ u = 1) (hS : ∀ t', t' < t → ak_SX e u p b n m ρ0 ρ3 ρ4 ρ t') (w : ak_PI u p b n m lv D o Mt z hc hm) (hz : z 2 ≤ 6130)
    (pt : 2 * z 1 ≤ 3 * ak_st b n (z 0) + z 5 + 10 * o + 13 ∧ z 2 ≤ ak_st b n (z 0) + 2 * o + 3 ∧ 13 * z 3 ≤ ak_st b n (z 0) + 13 * o + 14 ∧ 6 * z 4 ≤ ak_st b n (z 0) + 1) (ht : m ≤ z 0 + t) :
    ak_MV e 0 (dd + 1) [ρ0, ak_T u, ak_T u + 1, ρ3, ρ4] 20 [am_r 2, am_i (o : Int)] hc
      (fun hc' => ∃ (D' z' : Nat → Nat) (x : Int) (hm' : ak_S), ak_BP u p b n m lv D o Mt z hc hm D' z' x hc' hm' ∧ ak_goI e (dd + 2) ρ 232 [am_r 110] hm x hm')
      (ak_XX e ρ (dd + 2) 232 u p hc hm) := by
  obtain ⟨d0, rfl⟩ : ∃ d0, dd = d0 + 6 := ⟨dd - 6, by omega⟩
  refine ak_MV_of (Nat.le_of_ble_eq_true rfl) (am_k20_0 hu (lk_open2 (dm := d0 + 3) (ρ := ρ) hu (by decide) w hz (fun hc1 hm1 hk ho I1 e1 su op => ?_) (fun wr op => ?_)))
  · have ham := ak_cc_lt w.1 (by rw [hk]; decide)
    rw [ak_wj (show o < 1000000 by omega)]
    have pt1 : ak_POT b n (o + 1) 0 (ak_zu z 0 (z 0 + 1)) := by
      unfold ak_POT
      show 2 * z 1 ≤ 3 * ak_st b n (z 0 + 1) + z 5 + 10 * (o + 1) + 3 * 0 ∧ z 2 ≤ ak_st b n (z 0 + 1) + 2 * (o + 1) + 0 ∧ 13 * z 3 ≤ ak_st b n (z 0 + 1) + 13 * (o + 1) ∧ 6 * z 4 ≤ ak_st b n (z 0 + 1)
      omega
    have ed : d0 + 6 = (d0 + 6 - (20 * (20 - (o + 1)) + 26)) + 20 * (20 - (o + 1)) + 26 ∨ d0 + 6 < 20 * (20 - (o + 1)) + 26 := by omega
    rcases ed with ed | ed
    · have key := hS (t - 1) (by omega) lv D (o + 1) Mt _ hc1 hm1 (d0 + 6 - (20 * (20 - (o + 1)) + 26)) 125 I1 pt1 (show m ≤ z 0 + 1 + (t - 1) by omega) (Or.inr rfl) (show 1 ≤ z 0 + 1 by omega)
      rw [← ed] at key
      refine ak_MV_imp key (fun hc3 R => ?_) (fun ex hcx R => ?_)
      · obtain ⟨D', z3, x, hcB, hmB, ⟨I3, l3, r3, e3, d3, T3⟩, k125, C4, fr4, go⟩ := R
        obtain ⟨hm4, I4, e4, cl, -⟩ := lk_close (e := e) (ρ := ρ) (dm := d0 + 2) hu I3 (ak_lvo w) k125 C4 fr4
        have su3 := ak_st_up I3.1 (ak_cc_lt I3.1 (by rw [k125]; decide))
        have r3' : 2 * z3 1 + 0 + 3 * ak_st b n (z 0 + 1) + z 5 ≤ 2 * z 1 + 3 * ak_st b n (z3 0) + z3 5 ∧ z3 2 + ak_st b n (z 0 + 1) ≤ z 2 + ak_st b n (z3 0) ∧ 13 * z3 3 + ak_st b n (z 0 + 1) ≤ 13 * z 3 + ak_st b n (z3 0) ∧ 6 * z3 4 + ak_st b n (z 0 + 1) ≤ 6 * z 4 + ak_st b n (z3 0) := r3
        have l3' : z 0 + 1 ≤ z3 0 := l3
        have e13 := ak_ext_trans e1 e3
        refine ⟨D', _, x, hm4, ⟨I4, show z 0 < z3 0 + 1 by omega, ?_, ak_ext_trans e13 e4, d3, fun C M ft => T3 C M (ak_fut_sub (ak_fut_fst ft e13 e4 (Or.inl rfl)) ⟨Nat.le_refl _, Nat.le_refl _, Nat.le_refl _, Nat.le_refl _, Nat.le_refl _⟩)⟩, fun Q X g => ak_MI_of (Nat.le_of_ble_eq_true rfl) (am_k232_0 (op _ _ ((ak_goI_up (k := 1) go) _ _ (cl _ _ g))))⟩
        show 2 * z3 1 + 6 + 3 * ak_st b n (z 0) + z 5 ≤ 2 * z 1 + 3 * ak_st b n (z3 0 + 1) + z3 5 ∧ z3 2 + 2 + ak_st b n (z 0) ≤ z 2 + ak_st b n (z3 0 + 1) ∧ 13 * z3 3 + 2 + ak_st b n (z 0) ≤ 13 * z 3 + ak_st b n (z3 0 + 1) ∧ 6 * z3 4 + 2 + ak_st b n (z 0) ≤ 6 * z 4 + ak_st b n (z3 0 + 1)
        omega
      · obtain ⟨hx, x, hmx, wr, go⟩ := R
        have wr1 := ak_WRs_up w I1 (Nat.le_refl _) e1 wr
        obtain ⟨x', hm', wf, cl⟩ := ak_MI_get (e := e) (r := 1) (d := d0 + 6 + 2) (ρ := ρ) (j := 232) (ar := [am_r 110]) (h := hm) (Q := fun _ h' => ak_wf hmx h') (ak_MI_of (Nat.le_of_ble_eq_true rfl) (am_k232_0 (op _ _ ((ak_goI_up (k := 1) go) _ _ (am_w211 wr.1 (fun h' wf => wf))))))
        exact ⟨hx, x', hm', ak_WR_wf wr1 wf, cl⟩
    · exfalso
      omega
  · obtain ⟨x', hm', wf, cl⟩ := ak_MI_get (e := e) (r := 1) (d := d0 + 6 + 2) (ρ := ρ) (j := 232) (ar := [am_r 110]) (h := hm) (Q := fun _ h' => ak_wf (ak_wr hm) h') (ak_MI_of (Nat.le_of_ble_eq_true rfl) (am_k232_0 (op _ _ (am_w231 wr.1 (am_w211 wr.1 (fun h' wf => wf))))))
    exact ⟨rfl, x', hm', ak_WR_wf wr wf, cl⟩
end LKST
