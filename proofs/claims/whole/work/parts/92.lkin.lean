/-! a token that must be there; what stands in brackets -/
section LKIN
variable {e : ak_X3} {d dd u p : Nat} {b : Nat → Int} {n m lv o Mt : Nat} {D : Nat → Nat} {z z1 za zb z' : Nat → Nat} {hc hm hc1 hm1 hc' hm' hcP : ak_S} {ρ : List Nat} {x : Int} {C M C0 M0 C1 M1 : Nat → Nat → Int}
theorem ak_fut_agr (w : ak_fut u p za zb x C1 M1 C M) (a : ak_agr u p za zb x C0 M0 C1 M1) : ak_fut u p za zb x C0 M0 C M := ⟨ak_agr_trans a w.1, w.2⟩
theorem ak_agr_upM {q k : Nat} {v : Int} (h : ¬ (114 ≤ q ∧ q ≤ 120 ∧ 9000 * p + za 2 ≤ k ∧ k < 9000 * p + zb 2)) (h2 : ¬ ((q = 135 ∨ q = 136) ∧ 60 * p + za 5 ≤ k ∧ k < 60 * p + zb 5)) : ak_agr u p za zb x C M C (am_up M q k v) :=
  ⟨fun _ _ _ => ⟨rfl, rfl⟩, fun _ _ _ => ⟨rfl, rfl, rfl⟩, fun _ _ _ => ⟨rfl, rfl, rfl, rfl⟩, fun j h1 h3 => ⟨rfl, rfl, rfl, ak_up_out (by omega), ak_up_out (by omega)⟩, fun q' j h1 h3 h4 h5 _ => ak_up_out (by omega)⟩
theorem ak_agr_upC {q k : Nat} {v : Int} (h : ¬ ((q = ak_T u + 2 ∨ q = ak_T u + 3) ∧ za 1 ≤ k ∧ k < zb 1)) (h2 : ¬ (ak_T u + 4 ≤ q ∧ q ≤ ak_T u + 6 ∧ za 3 ≤ k ∧ k < zb 3)) (h3 : ¬ (ak_T u + 7 ≤ q ∧ q ≤ ak_T u + 10 ∧ za 4 ≤ k ∧ k < zb 4)) (h4 : ¬ (ak_T u + 18 ≤ q ∧ q ≤ ak_T u + 20 ∧ za 5 ≤ k ∧ k < zb 5)) : ak_agr u p za zb x C M (am_up C q k v) M :=
  ⟨fun _ _ _ => ⟨ak_up_out (by omega), ak_up_out (by omega)⟩, fun _ _ _ => ⟨ak_up_out (by omega), ak_up_out (by omega), ak_up_out (by omega)⟩, fun _ _ _ => ⟨ak_up_out (by omega), ak_up_out (by omega), ak_up_out (by omega), ak_up_out (by omega)⟩, fun j _ _ => ⟨ak_up_out (by omega), ak_up_out (by omega), ak_up_out (by omega), rfl, rfl⟩, fun q' j _ _ _ _ _ => rfl⟩
theorem ak_agr_ext (e1 : ak_ext u p z z1 hc hm hc1 hm1) (l : zb 1 ≤ z 1 ∧ zb 2 ≤ z 2 ∧ zb 3 ≤ z 3 ∧ zb 4 ≤ z 4 ∧ zb 5 ≤ z 5) : ak_agr u p za zb x hc.1 hm.1 hc1.1 hm1.1 :=
  ak_agr_sub e1.2.1 ⟨Nat.zero_le _, Nat.zero_le _, Nat.zero_le _, Nat.zero_le _, Nat.zero_le _⟩ l (Or.inr (Or.inl (by omega)))
/-- a token that must be there, both sides -/
theorem lk_pass {ρ0 ρ3 ρ4 : Nat} {Q : ak_S → Prop} {X : Nat → ak_S → Prop} {t : Int} {f dm : Nat} (hf2 : f ≤ 10) (hu : u = 0 ∨ u = 1) (ht : t ≠ 0) (w : ak_PI u p b n m lv D o Mt z hc hm) (pt : ak_POT b n o f z)
    (ok : ∀ hc' hm', ak_kd b n (ak_st b n (z 0)) = t → ak_PI u p b n m lv D o Mt (ak_zu z 0 (z 0 + 1)) hc' hm' → ak_afr hc hc' → ak_rfr hm hm' → ak_ext u p z (ak_zu z 0 (z 0 + 1)) hc hm hc' hm' → ak_st b n (z 0) + 1 ≤ ak_st b n (z 0 + 1) → ak_goV e (dm + 4) ρ 209 [am_r 110, am_i t] hm hm' → Q hc')
    (bad : ak_kd b n (ak_st b n (z 0)) ≠ t → ak_WR u p hc hm (ak_th hc) (ak_wr hm) → ak_goV e (dm + 4) ρ 209 [am_r 110, am_i t] hm (ak_wr hm) → X 0 (ak_th hc)) :
    ak_MV e 0 (d + 2) [ρ0, ak_T u, ak_T u + 1, ρ3, ρ4] 11 [am_r 2, am_i t] hc Q X := by
  have hst := (ak_st_n w).1
  refine am_s11 hu w.1 ht (fun hk hc1 C1 fr => ?_) (fun no => bad no (ak_WR_at hf2 w pt) (fun P Y q => am_s209 w.2.2.1 w.2.1 hst (fun k => absurd k no) (fun _ => q)))
  obtain ⟨hm1, ⟨M1, fr1⟩, go⟩ := ak_MV_get (e := e) (r := 1) (d := dm + 4) (ρ := ρ) (am_s209 (d := dm) (X := ak_F) w.2.2.1 w.2.1 hst (fun _ h' c f => (⟨c, f⟩ : ak_cm b n p h' (z 0 + 1) ∧ ak_rfr hm h')) (fun no => absurd hk no))
  exact ok hc1 hm1 hk (ak_PI_step hu w C1 fr M1 fr1) fr fr1 (ak_ext_step hu fr fr1) (ak_st_up w.1 (ak_cc_lt w.1 (by rw [hk]; exact ht))) (fun P Y q => go P Y q)
/-- a token read on, both sides -/
theorem lk_adv {ρc : List Nat} {Q : ak_S → Prop} {X : Nat → ak_S → Prop} {dm : Nat} (hu : u = 0 ∨ u = 1) (w : ak_PI u p b n m lv D o Mt z hc hm) (hk : ak_kd b n (ak_st b n (z 0)) ≠ 0)
    (ok : ∀ hc' hm', ak_PI u p b n m lv D o Mt (ak_zu z 0 (z 0 + 1)) hc' hm' → ak_afr hc hc' → ak_rfr hm hm' → ak_ext u p z (ak_zu z 0 (z 0 + 1)) hc hm hc' hm' → ak_st b n (z 0) + 1 ≤ ak_st b n (z 0 + 1) → ak_goV e (dm + 3) ρ 205 [am_r 110] hm hm' → Q hc') :
    ak_MV e 0 (d + 1) ρc 128 [am_r 3] hc Q X := by
  have hst := (ak_st_n w).1
  have ham : z 0 < m := ak_cc_lt w.1 hk
  refine am_adv w.1 ham (fun hc1 C1 fr => ?_)
  obtain ⟨hm1, ⟨M1, fr1⟩, go⟩ := ak_MV_get (e := e) (r := 1) (d := dm + 3) (ρ := ρ) (am_rd (d := dm) (X := ak_F) w.2.1 hst (fun h' c f => (⟨c, f⟩ : ak_cm b n p h' (z 0 + 1) ∧ ak_rfr hm h')))
  exact ok hc1 hm1 (ak_PI_step hu w C1 fr M1 fr1) fr fr1 (ak_ext_step hu fr fr1) (ak_st_up w.1 ham) (fun P Y q => go P Y q)
/-- an opening bracket on both sides -/
theorem lk_open {ρ0 ρ3 ρ4 : Nat} {Q : ak_S → Prop} {X : Nat → ak_S → Prop} {t : Int} {f dm : Nat} (hf2 : f ≤ 10) (hu : u = 0 ∨ u = 1) (ht : t ≠ 0) (w : ak_PI u p b n m lv D o Mt z hc hm) (pt : ak_POT b n o f z)
    (ok : ∀ hc' hm', ak_kd b n (ak_st b n (z 0)) = t → o < 20 → ak_PI u p b n m lv D (o + 1) Mt (ak_zu z 0 (z 0 + 1)) hc' hm' → ak_ext u p z (ak_zu z 0 (z 0 + 1)) hc hm hc' hm' → ak_st b n (z 0) + 1 ≤ ak_st b n (z 0 + 1) → ak_goV e (dm + 4) ρ 210 [am_r 110, am_i t] hm hm' → Q hc')
    (bad : ¬ (ak_kd b n (ak_st b n (z 0)) = t ∧ o < 20) → ak_WR u p hc hm (ak_th hc) (ak_wr hm) → ak_goV e (dm + 4) ρ 210 [am_r 110, am_i t] hm (ak_wr hm) → X 0 (ak_th hc)) :
    ak_MV e 0 (d + 2) [ρ0, ak_T u, ak_T u + 1, ρ3, ρ4] 12 [am_r 2, am_i t, am_i (o : Int)] hc Q X := by
  have hst := (ak_st_n w).1
  refine am_s12 hu w.1 ht (fun hk ho hc1 C1 fr => ?_) (fun no => bad (fun q => no ⟨q.1, by omega⟩) (ak_WR_at hf2 w pt) (fun P Y q => am_s210 w.2.2.1 w.2.1 hst w.2.2.2.1.1 w.2.2.2.1.2 (fun k1 k2 => absurd ⟨k1, by omega⟩ no) (fun _ => q)))
  have ho' : o < 20 := by omega
  obtain ⟨hm1, ⟨M1, fr1⟩, go⟩ := ak_MV_get (e := e) (r := 1) (d := dm + 4) (ρ := ρ) (am_s210 (d := dm) (X := ak_F) w.2.2.1 w.2.1 hst w.2.2.2.1.1 w.2.2.2.1.2 (fun _ _ h' c f => (⟨c, f⟩ : ak_cm b n p h' (z 0 + 1) ∧ ak_rfr (am_up hm.1 110 38 ((o + 1 : Nat) : Int), hm.2) h')) (fun no => absurd ⟨hk, ho'⟩ no))
  refine ok hc1 hm1 hk ho' (ak_PI_step hu (ak_PI_open w (o' := o + 1) (by omega) (Nat.le_succ_of_le (ak_lvo w))) C1 fr M1 fr1) (ak_ext_trans (ak_ext_note ak_ext_refl (k := 38) (v := ((o + 1 : Nat) : Int)) (Or.inl (by decide))) (ak_ext_step hu fr fr1)) (ak_st_up w.1 (ak_cc_lt w.1 (by rw [hk]; exact ht))) (fun P Y q => go P Y q)
/-- the same token, closing: the one passed it, the other does so here; hm may differ from what the one saw -/
theorem lk_close {t : Int} {dm : Nat} (hu : u = 0 ∨ u = 1) (w : ak_PI u p b n m lv D (o + 1) Mt z hc hm) (hl : lv ≤ o) (hk : ak_kd b n (ak_st b n (z 0)) = t) (C1 : ak_cc b n m hc' (z 0 + 1)) (fr : ak_afr hc hc') :
    ∃ hm', ak_PI u p b n m lv D o Mt (ak_zu z 0 (z 0 + 1)) hc' hm' ∧ ak_ext u p z (ak_zu z 0 (z 0 + 1)) hc hm hc' hm' ∧ ak_goV e (dm + 5) ρ 211 [am_r 110, am_i t] hm hm' ∧ (∀ q k, q ≠ 110 → hm'.1 q k = hm.1 q k) ∧ hm'.1 110 45 = hm.1 110 45 ∧ hm'.1 110 42 = hm.1 110 42 := by
  have hst := (ak_st_n w).1
  have ho := w.2.2.2.1.2
  obtain ⟨hm3, ⟨hm2, M2, fr', rfl⟩, rd⟩ := ak_MV_get (e := e) (r := 1) (d := dm + 5) (ρ := ρ) (am_s211 (d := dm) (X := ak_F) (Q := fun h => ∃ h', ak_cm b n p h' (z 0 + 1) ∧ ak_rfr hm h' ∧ h = (am_up h'.1 110 38 (o : Int), h'.2)) w.2.2.1 w.2.1 hst w.2.2.2.1.1 (by omega) (fun _ h' c f => ⟨h', c, f, rfl⟩) (fun q => absurd hk q))
  have f110 : ∀ k, k ≠ 38 → ¬ (32 ≤ k ∧ k ≤ 36) → am_up hm2.1 110 38 (o : Int) 110 k = hm.1 110 k := fun k h1 h2 => (ak_up_out (fun g => h1 g.2)).trans (fr'.1 110 k (fun g => h2 g.2))
  refine ⟨_, ak_PI_open (ak_PI_step hu w C1 fr M2 fr') (o' := o) (by omega) hl, ak_ext_note (ak_ext_step (p := p) (z := z) hu fr fr') (k := 38) (v := (o : Int)) (Or.inl (by decide)), fun P Y q => rd P Y q, fun q k h => (ak_up_out (fun g => h g.1)).trans (fr'.1 q k (fun g => h g.1)), f110 45 (by decide) (by decide), f110 42 (by decide) (by decide)⟩
theorem lk_close_bad {t : Int} {f dm : Nat} (hf2 : f ≤ 10) (w : ak_PI u p b n m lv D (o + 1) Mt z hc hm) (pt : ak_POT b n (o + 1) f z) (hk : ak_kd b n (ak_st b n (z 0)) ≠ t) :
    ∃ hm', ak_WR u p hc hm (ak_th hc) hm' ∧ ak_goV e (dm + 5) ρ 211 [am_r 110, am_i t] hm hm' := by
  have hst := (ak_st_n w).1
  have ho := w.2.2.2.1.2
  exact ⟨_, ak_WR_up (ak_WR_at hf2 w pt) (k := 38) (v := (o : Int)) (Or.inl rfl), fun P Y q => am_s211 w.2.2.1 w.2.1 hst w.2.2.2.1.1 (by omega) (fun k => absurd k hk) (fun _ => q)⟩
end LKIN
