/-! a message -/
section LKMS
variable {e : ak_X3} {d dd u p : Nat} {b : Nat → Int} {n m lv o Mt : Nat} {D : Nat → Nat} {z z1 z' : Nat → Nat} {hc hm hc1 hm1 hc' hm' hcP : ak_S} {ρ : List Nat}
theorem lk_args {ρ0 ρ3 ρ4 t : Nat} (hd : 20 * (20 - o) + 6 ≤ dd) (hu : u = 0 ∨ u = 1) (hE : ∀ t', t' < t → ak_EX e u p b n m ρ0 ρ3 ρ4 ρ 34 222 13 13 t') (w : ak_PI u p b n m lv D o Mt z hc hm) (pt : ak_POT b n o 2 z) (ht : m ≤ z 0 + t) :
    ak_MI e 0 dd [ρ0, ak_T u, ak_T u + 1, ρ3, ρ4] 41 [am_r 2, am_i (o : Int)] hc (ak_AQ e ρ (dd + 1) u p b n m lv D o Mt z hc hm) (ak_XX e ρ (dd + 1) 221 u p hc hm) := by
  by_cases hk : ak_kd b n (ak_st b n (z 0)) = 40 ∧ o < 20
  · have ho := hk.2
    have key := lk_args1 (d := dd - (20 * (20 - (o + 1)) + 14)) hu hE w pt ht hk.1 hk.2
    have e1 : dd - (20 * (20 - (o + 1)) + 14) + 20 * (20 - (o + 1)) + 14 = dd := by omega
    have e2 : dd - (20 * (20 - (o + 1)) + 14) + 20 * (20 - (o + 1)) + 15 = dd + 1 := by omega
    rw [e1, e2] at key
    exact key
  · obtain ⟨d, rfl⟩ : ∃ d, dd = d + 5 := ⟨dd - 5, by omega⟩
    have hf := w.2.2.1
    have hst := (ak_st_n w).1
    have W := ak_WR_at (by decide) w pt
    refine ak_MI_of (Nat.le_of_ble_eq_true rfl) (am_k41_0 hu (am_s12 hu w.1 (by decide) (fun q1 q2 => absurd ⟨q1, by omega⟩ hk) (fun _ => ?_)))
    obtain ⟨x, hmx, wf, go⟩ := ak_MI_get (e := e) (r := 1) (d := d + 6) (ρ := ρ) (j := 221) (ar := [am_r 110]) (h := hm) (Q := fun _ h' => ak_wf (ak_wr hm) h') (ak_MI_of (Nat.le_of_ble_eq_true rfl) (am_k221_0 (am_s210 hf w.2.1 hst w.2.2.2.1.1 w.2.2.2.1.2 (fun q1 q2 => absurd ⟨q1, q2⟩ hk) (fun _ => am_w206 W.1 ⟨fun _ => am_k221_35 ⟨fun _ => am_w211 W.1 (fun h' wf => ak_wf_up wf (Or.inr rfl)), fun q => absurd rfl q⟩, fun q => absurd q (by decide)⟩))))
    exact ⟨rfl, x, hmx, ak_WR_wf W wf, go⟩
theorem ak_AP_pre {k : Nat} {x : Int} (e1 : ak_ext u p z z1 hc hm hc1 hm1) (q1 : z1 1 = z 1) (q2 : z1 2 = z 2) (q3 : z1 3 = z 3) (q4 : z1 4 = z 4) (q5 : z1 5 = z 5) (su : ak_st b n (z 0) ≤ ak_st b n (z1 0)) (A : ak_AP u p b n m lv D o Mt z1 hc1 hm1 z' k x hc' hm') : ak_AP u p b n m lv D o Mt z hc hm z' k x hc' hm' := by
  obtain ⟨I, l, r, e2, h45, hk, T⟩ := A
  have le1 := ak_ext_le e1
  refine ⟨I, by omega, by omega, ak_ext_trans e1 e2, h45, hk, fun C M ft => ?_⟩
  intro i hi
  rw [← q1]
  exact T C M (ak_fut_sub ft (by omega)) i (by rw [q2]; exact hi)
theorem lk_msg {ρ0 ρ3 ρ4 t k : Nat} (hk : k = 0 ∨ k = 1) (hd : 20 * (20 - o) + 6 ≤ dd) (hu : u = 0 ∨ u = 1) (hE : ∀ t', t' < t → ak_EX e u p b n m ρ0 ρ3 ρ4 ρ 34 222 13 13 t') (w : ak_PI u p b n m lv D o Mt z hc hm) (pt : ak_POT b n o 2 z) (ht : m ≤ z 0 + t)
    (k46 : ak_kd b n (ak_st b n (z 0)) = 46) (M1 : ak_cm b n p hm1 (z 0 + 1)) (fr1 : ak_rfr hm hm1) :
    ak_MV e 0 (dd + 1) [ρ0, ak_T u, ak_T u + 1, ρ3, ρ4] 40 [am_r 2, am_i (k : Int), am_i (o : Int)] hc
      (fun hc' => ∃ (z' : Nat → Nat) (kk : Nat) (x : Int) (hcP hmS hm' : ak_S), hc' = ak_put hcP u (z' 1) (17 + (k : Int)) ((z 7 : Int) * 8 + (kk : Int)) ∧ ak_AP u p b n m lv D o Mt z hc hm z' kk x hcP hm' ∧ (z 7 < 150 ∧ z 7 < z' 7) ∧ hmS.1 110 37 < 0 ∧ ak_goI e (dd + 1) ρ 219 [am_r 110, am_i (k : Int)] hm1 (z 7 : Int) hmS ∧
        ((hmS.1 110 33 = 40 ∧ ak_goI e (dd + 1) ρ 221 [am_r 110] (am_up hmS.1 110 45 0, hmS.2) x hm') ∨ (hmS.1 110 33 ≠ 40 ∧ x = -1 ∧ hm' = (am_up hmS.1 110 45 0, hmS.2))))
      (fun ex hc' => ex = 0 ∧ ((∃ (y : Int) (hmx : ak_S), ak_WR u p hc hm hc' hmx ∧ ak_goI e (dd + 1) ρ 219 [am_r 110, am_i (k : Int)] hm1 y hmx) ∨
        (∃ (x : Int) (hmS hmx : ak_S), hmS.1 110 37 < 0 ∧ hmS.1 110 33 = 40 ∧ ak_goI e (dd + 1) ρ 219 [am_r 110, am_i (k : Int)] hm1 (z 7 : Int) hmS ∧ ak_WR u p hc hm hc' hmx ∧ ak_goI e (dd + 1) ρ 221 [am_r 110] (am_up hmS.1 110 45 0, hmS.2) x hmx))) := by
  obtain ⟨d0, rfl⟩ : ∃ d0, dd = d0 + 5 := ⟨dd - 5, by omega⟩
  have ham : z 0 < m := ak_cc_lt w.1 (by rw [k46]; decide)
  have su := ak_st_up w.1 ham
  refine ak_MV_of (Nat.le_of_ble_eq_true rfl) (am_k40_0 hu (am_s11 hu w.1 (by decide) (fun _ hc1 C1 fr => ?_) (fun no => absurd k46 no)))
  have I1 := ak_PI_step hu w C1 fr M1 fr1
  have e1 := ak_ext_step (p := p) (z := z) hu fr fr1
  have pt1 := ak_POT_step w.1 ham pt
  refine ak_MI_deep (Nat.le_succ _) (ak_MI_imp (lk_site2 (d := d0) (ρ := ρ) (k := (k : Int)) hu I1) (fun x hc2 R => ?_) (fun ex hcx R => ?_))
  · obtain ⟨z2, hmS, ex, s150, k2, z20, q1, q2, q3, q4, q5, I2, e2, goS⟩ := R
    subst ex
    have s150' : z 7 < 150 := s150.1
    have s7 : z2 7 = z 7 + 1 := s150.2
    have q1' : z2 1 = z 1 := q1
    have q2' : z2 2 = z 2 := q2
    have q3' : z2 3 = z 3 := q3
    have q4' : z2 4 = z 4 := q4
    have q5' : z2 5 = z 5 := q5
    have z20' : z2 0 = z 0 + 1 + 1 := z20
    have k2' : ak_kd b n (ak_st b n (z 0 + 1)) = 2 := k2
    have ham1 : z 0 + 1 < m := ak_cc_lt (a := z 0 + 1) I1.1 (by rw [k2']; decide)
    have su1 : ak_st b n (z 0 + 1) + 1 ≤ ak_st b n (z2 0) := by
      rw [z20']; exact ak_st_up (z := ak_zu z 0 (z 0 + 1)) I1.1 ham1
    have e02 := ak_ext_trans e1 e2
    have hkC := I2.1.2.2.2.2.1
    have tk := I2.2.1.2.2.1
    have hfS := I2.2.2.1
    have I3 := ak_PI_cell hu I2 (q := 110) (k := 45) (v := 0) (Or.inr (by decide))
    have e03 := ak_ext_note e02 (k := 45) (v := 0) (Or.inr (by decide))
    have fin : ∀ (kk : Nat) (z' : Nat → Nat) (x : Int) (hcP hm' : ak_S), ak_AP u p b n m lv D o Mt z hc hm z' kk x hcP hm' → z 7 < z' 7 → ((hmS.1 110 33 = 40 ∧ ak_goI e (d0 + 5 + 1) ρ 221 [am_r 110] (am_up hmS.1 110 45 0, hmS.2) x hm') ∨ (hmS.1 110 33 ≠ 40 ∧ x = -1 ∧ hm' = (am_up hmS.1 110 45 0, hmS.2))) →
        ak_W0 e 0 (d0 + 5) 40 [ρ0, ak_T u, ak_T u + 1, ρ3, ρ4] 33 [some (am_r 2), some (am_i (k : Int)), none, some (am_i (z 7 : Int)), none] [am_i (kk : Int)] hcP (ak_qv (fun hc' => ∃ (z' : Nat → Nat) (kk : Nat) (x : Int) (hcP hmS hm' : ak_S), hc' = ak_put hcP u (z' 1) (17 + (k : Int)) ((z 7 : Int) * 8 + (kk : Int)) ∧ ak_AP u p b n m lv D o Mt z hc hm z' kk x hcP hm' ∧ (z 7 < 150 ∧ z 7 < z' 7) ∧ hmS.1 110 37 < 0 ∧ ak_goI e (d0 + 5 + 1) ρ 219 [am_r 110, am_i (k : Int)] hm1 (z 7 : Int) hmS ∧
        ((hmS.1 110 33 = 40 ∧ ak_goI e (d0 + 5 + 1) ρ 221 [am_r 110] (am_up hmS.1 110 45 0, hmS.2) x hm') ∨ (hmS.1 110 33 ≠ 40 ∧ x = -1 ∧ hm' = (am_up hmS.1 110 45 0, hmS.2)))) (fun ex hc' => ex = 0 ∧ ((∃ (y : Int) (hmx : ak_S), ak_WR u p hc hm hc' hmx ∧ ak_goI e (d0 + 5 + 1) ρ 219 [am_r 110, am_i (k : Int)] hm1 y hmx) ∨
        (∃ (x : Int) (hmS hmx : ak_S), hmS.1 110 37 < 0 ∧ hmS.1 110 33 = 40 ∧ ak_goI e (d0 + 5 + 1) ρ 219 [am_r 110, am_i (k : Int)] hm1 (z 7 : Int) hmS ∧ ak_WR u p hc hm hc' hmx ∧ ak_goI e (d0 + 5 + 1) ρ 221 [am_r 110] (am_up hmS.1 110 45 0, hmS.2) x hmx)))) := by
      intro kk z' x hcP hm' A h7 alt
      have ptx : ak_POT b n o 2 z' := by
        have r := A.2.2.1
        unfold ak_POT at pt ⊢
        omega
      have rm := ak_room A.1 (by decide) ptx
      have hk4 := A.2.2.2.2.2.1
      have ew : am_w32 (am_w32 ((z 7 : Int) * 8) + (kk : Int)) = (z 7 : Int) * 8 + (kk : Int) := by
        rw [ak_w ((z 7 : Int) * 8) (by omega), ak_w ((z 7 : Int) * 8 + (kk : Int)) (by omega)]
      refine am_k40_33 hu ⟨fun h1 => ?_, fun h1 => ?_⟩
      · rw [ew]
        have hk0 : k = 0 := by omega
        refine am_s3 hu A.1.2.2.2.2.2.2.2.2.1 (by omega) ⟨z', kk, x, hcP, hmS, hm', ?_, A, ⟨s150', h7⟩, hfS, goS, alt⟩
        rw [hk0]; rfl
      · rw [ew]
        have hk0 : k = 1 := by omega
        refine am_s3 hu A.1.2.2.2.2.2.2.2.2.1 (by omega) ⟨z', kk, x, hcP, hmS, hm', ?_, A, ⟨s150', h7⟩, hfS, goS, alt⟩
        rw [hk0]; rfl
    rw [hkC]
    refine ⟨fun no => ?_, fun k40 => ?_⟩
    · refine fin 0 z2 (-1) hc2 _ ⟨I3, by omega, by omega, e03, (show am_up hmS.1 110 45 0 110 45 = _ from ak_up_eq), ⟨by decide, Or.inl rfl⟩, fun C M _ => ?_⟩ (by omega) (Or.inr ⟨fun q => no (tk.symm.trans q), rfl, rfl⟩)
      rw [q1']; exact ak_X1_no C M _ _
    · have pt2 : ak_POT b n o 2 z2 := by
        unfold ak_POT at pt ⊢
        omega
      refine ak_MI_imp (lk_args (dd := d0 + 5) hd hu hE I3 pt2 (by omega)) (fun v hc3 R => ?_) (fun ex hcx R => ?_)
      · obtain ⟨z', kk, x, hm', rfl, A, goA⟩ := R
        exact fin kk z' x hc3 hm' (ak_AP_pre e03 q1' q2' q3' q4' q5' (by omega) A) (by have := A.2.2.2.1.1 7 (by decide); omega) (Or.inl ⟨tk.trans k40, goA⟩)
      · obtain ⟨hx, x, hmx, wr, goA⟩ := R
        exact ⟨hx, Or.inr ⟨x, hmS, hmx, hfS, tk.trans k40, goS, ak_WR_ext w I3 (Nat.le_refl _) e03 wr, goA⟩⟩
  · obtain ⟨hx, ht', y, go⟩ := R
    subst ht'
    exact ⟨hx, Or.inl ⟨y, _, ak_WR_ext w I1 (Nat.le_refl _) e1 (ak_WR_at (by decide) I1 pt1), go⟩⟩
end LKMS
