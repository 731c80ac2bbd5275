noncomputable section
/-! the whole law -/
section SXW
variable {L : Nat} {X : Nat → Int}
/-- what the law comes to -/
def sx_end (res : am_R) : Prop := ∃ h', res = .inl (some (.inl 1), h') ∧ sx_ST h'
theorem sx_out {i T : Int} {H : am_H} {a b : Option am_V} (v : sx_J X i T H) : am_W (am_ro L) 100 0 188 (sx_ls T i a b) [] H sx_end := by
  refine am_W_nrm (st' := [am_i 1]) (ls' := sx_ls T i a b) (h' := H) rfl rfl rfl ?_
  refine am_W_iret rfl (Or.inr (Or.inl ⟨rfl, Or.inr rfl⟩)) ⟨H, rfl, ?_⟩
  obtain ⟨full, man, -, -, v⟩ := v
  exact v.2.1
theorem sx_loop (hL : L ≤ 260) (hX : ∀ k, -2147483648 ≤ X k ∧ X k ≤ 2147483647) : ∀ (n : Nat) (i T : Int) (H : am_H) (a b : Option am_V), 0 ≤ i → i + n = 50 → -2147483648 * i ≤ T → T ≤ 2147483648 * i → sx_J X i T H → am_W (am_ro L) 100 0 46 (sx_ls T i a b) [] H sx_end := by
  intro n
  induction n with
  | zero =>
    intro i T H a b h0 h1 h2 h3 v
    have hk : am_kind (am_ro L) H (am_SP + 2) = some (102, L) := by
      unfold am_kind am_ro
      rw [if_neg (by unfold am_SP; omega), if_neg (by omega), Nat.add_sub_cancel_left]
      rfl
    refine am_W_nrm (st' := [am_i i]) (ls' := sx_ls T i a b) (h' := H) rfl rfl rfl ?_
    refine am_W_nrm (st' := [am_r (am_SP + 2), am_i i]) (ls' := sx_ls T i a b) (h' := H) rfl rfl rfl ?_
    refine am_W_nrm (st' := [am_i (L : Int), am_i i]) (ls' := sx_ls T i a b) (h' := H) rfl rfl (by
      unfold am_norm am_loc am_alu am_hp
      dsimp only
      rw [hk]
      rfl) ?_
    refine am_W_icmp (c := .ge) (x := i) (y := (L : Int)) (t := 188) rfl rfl (fun _ => sx_out v) (fun _ => ?_)
    refine am_W_nrm (st' := [am_i i]) (ls' := sx_ls T i a b) (h' := H) rfl rfl rfl ?_
    refine am_W_nrm (st' := [am_i 50, am_i i]) (ls' := sx_ls T i a b) (h' := H) rfl rfl rfl ?_
    refine am_W_icmp (c := .ge) (x := i) (y := 50) (t := 188) rfl rfl (fun _ => sx_out v) (fun q => ?_)
    exfalso
    have : i = 50 := by omega
    subst this
    cases q
  | succ n ih =>
    intro i T H a b h0 h1 h2 h3 v
    have hk : am_kind (am_ro L) H (am_SP + 2) = some (102, L) := by
      unfold am_kind am_ro
      rw [if_neg (by unfold am_SP; omega), if_neg (by omega), Nat.add_sub_cancel_left]
      rfl
    refine am_W_nrm (st' := [am_i i]) (ls' := sx_ls T i a b) (h' := H) rfl rfl rfl ?_
    refine am_W_nrm (st' := [am_r (am_SP + 2), am_i i]) (ls' := sx_ls T i a b) (h' := H) rfl rfl rfl ?_
    refine am_W_nrm (st' := [am_i (L : Int), am_i i]) (ls' := sx_ls T i a b) (h' := H) rfl rfl (by
      unfold am_norm am_loc am_alu am_hp
      dsimp only
      rw [hk]
      rfl) ?_
    refine am_W_icmp (c := .ge) (x := i) (y := (L : Int)) (t := 188) rfl rfl (fun _ => sx_out v) (fun q0 => ?_)
    have hiL : i < (L : Int) := by
      have q0 : (!decide (i < (L : Int))) = false := q0
      rw [Bool.not_eq_false', decide_eq_true_iff] at q0
      exact q0
    refine am_W_nrm (st' := [am_i i]) (ls' := sx_ls T i a b) (h' := H) rfl rfl rfl ?_
    refine am_W_nrm (st' := [am_i 50, am_i i]) (ls' := sx_ls T i a b) (h' := H) rfl rfl rfl ?_
    refine am_W_icmp (c := .ge) (x := i) (y := 50) (t := 188) rfl rfl (fun _ => sx_out v) (fun _ => ?_)
    refine am_W_nrm (st' := [am_r (am_SP + 2)]) (ls' := sx_ls T i a b) (h' := H) rfl rfl rfl ?_
    refine am_W_nrm (st' := [am_i i, am_r (am_SP + 2)]) (ls' := sx_ls T i a b) (h' := H) rfl rfl rfl ?_
    have hs : H.2.1 (am_SP + 2) = X := by
      obtain ⟨full, man, -, -, v⟩ := v
      exact v.1
    refine am_W_nrm (st' := [am_i (X i.toNat)]) (ls' := sx_ls T i a b) (h' := H) rfl rfl (by
      unfold am_norm am_loc am_alu am_hp
      dsimp only
      rw [hk]
      dsimp only
      rw [if_pos ⟨rfl, h0, hiL⟩, hs]) ?_
    refine am_W_nrm (st' := []) (ls' := sx_ls T i (some (am_i (X i.toNat))) b) (h' := H) rfl rfl rfl ?_
    have hx := hX i.toNat
    refine sx_w66 (x := X i.toNat) ⟨h0, by omega⟩ hx (by omega) (by omega) v (fun H2 c v2 => ?_)
    exact ih (i + 1) (T + X i.toNat) H2 _ c (by omega) (by omega) (by omega) (by omega) v2
end SXW
theorem sx_m1 {L : Nat} {X : Nat → Int} {H : am_H} (hX : H.2.1 (am_SP + 2) = X) (s : sx_ST H) (h : sx_HF sx_e0z sx_S0 H) : am_M (am_ro L) 100 174 [.inr (.inr 1), .inr (.inr 110)] H (fun res => ∃ H2, res = .inl (some (.inl 1), H2) ∧ H2.2.1 (am_SP + 2) = X ∧ sx_ST H2 ∧ sx_HF sx_e0z sx_S1 H2) := by
  refine am_M_deep (show 60 ≤ 100 by decide) (am_M_imp (sx_callM sx_inBz sx_kdk sx_t1 (t := [.inr (.inr 1), .inr (.inr 110)]) ⟨rfl, rfl, trivial⟩ (sx_HR_of s h)) (fun res q => ?_))
  obtain ⟨r, q1, w, H2, rfl, q2, q3⟩ := q
  unfold sx_c1 at q1
  simp only [Bool.and_eq_true] at q1
  obtain ⟨c1, cX, c2⟩ := q1
  obtain ⟨z, rfl, hz⟩ := sx_isA_ok c1 q3
  have hz : z = 1 := hz
  subst hz
  exact ⟨H2, rfl, (sx_noI_ok q2 cX).trans hX, sx_HR_ST q2, sx_imp_ok sx_inBz (sx_HR_HF q2) c2⟩
theorem sx_S2_SP : sx_cl sx_S2.1 (am_SP + 2) = none := by decide +kernel
theorem sx_m2 {L : Nat} {X : Nat → Int} {H : am_H} (hX : H.2.1 (am_SP + 2) = X) (s : sx_ST H) (h : sx_HF sx_e0z sx_S1 H) : am_M (am_ro L) 100 161 [.inr (.inr 1)] H (fun res => ∃ H2, res = .inl (some (.inl 3), H2) ∧ H2.2.1 (am_SP + 2) = X ∧ sx_ST H2 ∧ sx_HF sx_e0z sx_S2 H2) := by
  refine am_M_deep (show 52 ≤ 100 by decide) ?_
  obtain ⟨res, h1, w, H2, rfl, q2, q3⟩ := sx_load (L := L) _ H (sx_HR_of s h)
  refine ⟨20000, _, h1, H2, ?_, (q2.2.2.2.2.2.2.2.1 (am_SP + 2) sx_S2_SP).trans hX, sx_HR_ST q2, sx_HR_HF q2⟩
  have q3 : sx_ra sx_e0z (some (.inl (.inl 3))) w := q3
  cases w with
  | none => exact False.elim q3
  | some y =>
    obtain ⟨z, rfl, hz⟩ := sx_rv_i q3
    have hz : z = 3 := hz
    rw [hz]
theorem sx_m3 {L : Nat} {X : Nat → Int} {H : am_H} (hX : H.2.1 (am_SP + 2) = X) (s : sx_ST H) (h : sx_HF sx_e0z sx_S2 H) : am_M (am_ro L) 100 175 [.inr (.inr 1), .inl 0, .inr (.inl 0), .inr (.inl 0)] H (fun res => ∃ H2, res = .inl (some (.inl 0), H2) ∧ sx_J X 0 0 H2) := by
  refine am_M_deep (show 60 ≤ 100 by decide) (am_M_imp (sx_callM sx_inBz sx_kdk sx_t3 (t := [.inr (.inr 1), .inl 0, .inr (.inl 0), .inr (.inl 0)]) ⟨rfl, rfl, rfl, rfl, trivial⟩ (sx_HR_of s h)) (fun res q => ?_))
  obtain ⟨r, q1, w, H2, rfl, q2, q3⟩ := q
  unfold sx_c3x at q1
  simp only [Bool.and_eq_true] at q1
  obtain ⟨c1, cX, c2, c3, c4, c5, c6⟩ := q1
  obtain ⟨z, rfl, hz⟩ := sx_isA_ok c1 q3
  have hz : z = 0 := hz
  subst hz
  have d3 : H2.2.1 49 14 = 0 := sx_isI_ok sx_inBz q2 c3
  have d4 : H2.2.1 49 11 = 560 := sx_isI_ok sx_inBz q2 c4
  have d5 : H2.2.2.1 36 0 = 0 := sx_isJ_ok sx_inBz q2 c5
  have d6 : H2.2.1 44 6 = 0 := sx_isI_ok sx_inBz q2 c6
  exact ⟨H2, rfl, false, 0, Or.inl rfl, fun z => (by cases z), (sx_noI_ok q2 cX).trans hX, sx_HR_ST q2, sx_imp_ok sx_inBz (sx_HR_HF q2) c2, d6, d3, d4, d5⟩
theorem sx_hp0_SP (X : Nat → Int) : ∀ p k, am_SP ≤ p → (am_hp0 X am_hB).2.1 p k = am_I0 X p k := fun p k hp => sx_it_SP am_hB_I (by decide +kernel) p k hp
theorem sx_law {L : Nat} (hL : L ≤ 260) {X : Nat → Int} (hX : ∀ k, -2147483648 ≤ X k ∧ X k ≤ 2147483647) : am_W (am_ro L) 100 0 0 (am_ent 8 [am_r (am_SP + 2)]) [] (am_h0 X) sx_end := by
  refine am_head ?_
  have hX0 : (am_hp0 X am_hB).2.1 (am_SP + 2) = X := by
    funext k
    exact (sx_hp0_SP X (am_SP + 2) k (Nat.le_add_right _ _)).trans (congrFun am_I2 k)
  have s0 := sx_S0_ST X
  have f0 := sx_S0_HF X
  generalize am_hp0 X am_hB = H at hX0 s0 f0 ⊢
  refine am_W_nrm (st' := [am_r 1]) (ls' := [some (am_r (am_SP + 2)), some (am_r 1), some (am_r 110), none, none, none, none, none]) (h' := H) rfl rfl rfl ?_
  refine am_W_nrm (st' := [am_r 110, am_r 1]) (ls' := [some (am_r (am_SP + 2)), some (am_r 1), some (am_r 110), none, none, none, none, none]) (h' := H) rfl rfl rfl ?_
  refine am_W_stat (a := 174) rfl (by decide) (ar := [.inr (.inr 1), .inr (.inr 110)]) (r := []) rfl (by decide) (sx_m1 hX0 s0 f0) (fun w H1 q => ?_) (am_K2_none (fun y h' q => by obtain ⟨H2, q, -⟩ := q; cases q))
  obtain ⟨H1', q, hX1, s1, f1⟩ := q
  cases q
  refine am_W_if (c := .eq) (x := 1) (t := 39) rfl rfl (fun q => by cases q) (fun _ => ?_)
  refine am_W_nrm (st' := [am_r 1]) (ls' := [some (am_r (am_SP + 2)), some (am_r 1), some (am_r 110), none, none, none, none, none]) (h' := H1) rfl rfl rfl ?_
  have hk : am_kind (am_ro L) H1 1 = some (am_rc am_P 161, 0) := (sx_kdk (p := 1) (x := (11, 0)) s1.1 rfl).1
  refine am_W_virt (a := 161) rfl (ar := []) (p := 1) (r := []) rfl hk (by decide) (sx_m2 hX1 s1 f1) (fun w H2 q => ?_) (am_K2_none (fun y h' q => by obtain ⟨H2, q, -⟩ := q; cases q))
  obtain ⟨H2', q, hX2, s2, f2⟩ := q
  cases q
  refine am_W_nrm (st' := [am_i 3, am_i 3]) (ls' := [some (am_r (am_SP + 2)), some (am_r 1), some (am_r 110), none, none, none, none, none]) (h' := H2) rfl rfl rfl ?_
  refine am_W_icmp (c := .ne) (x := 3) (y := 3) (t := 39) rfl rfl (fun q => by cases q) (fun _ => ?_)
  refine am_W_nrm (st' := [am_r 1]) (ls' := [some (am_r (am_SP + 2)), some (am_r 1), some (am_r 110), none, none, none, none, none]) (h' := H2) rfl rfl rfl ?_
  refine am_W_nrm (st' := [am_i 0, am_r 1]) (ls' := [some (am_r (am_SP + 2)), some (am_r 1), some (am_r 110), none, none, none, none, none]) (h' := H2) rfl rfl rfl ?_
  refine am_W_nrm (st' := [am_l 0, am_i 0, am_r 1]) (ls' := [some (am_r (am_SP + 2)), some (am_r 1), some (am_r 110), none, none, none, none, none]) (h' := H2) rfl rfl rfl ?_
  refine am_W_nrm (st' := [am_l 0, am_l 0, am_i 0, am_r 1]) (ls' := [some (am_r (am_SP + 2)), some (am_r 1), some (am_r 110), none, none, none, none, none]) (h' := H2) rfl rfl rfl ?_
  refine am_W_stat (a := 175) rfl (by decide) (ar := [.inr (.inr 1), .inl 0, .inr (.inl 0), .inr (.inl 0)]) (r := []) rfl (by decide) (sx_m3 hX2 s2 f2) (fun w H3 q => ?_) (am_K2_none (fun y h' q => by obtain ⟨H2, q, -⟩ := q; cases q))
  obtain ⟨H3', q, v⟩ := q
  cases q
  refine am_W_if (c := .eq) (x := 0) (t := 41) rfl rfl (fun _ => ?_) (fun q => by cases q)
  refine am_W_nrm (st' := [am_l 0]) (ls' := [some (am_r (am_SP + 2)), some (am_r 1), some (am_r 110), none, none, none, none, none]) (h' := H3) rfl rfl rfl ?_
  refine am_W_nrm (st' := []) (ls' := [some (am_r (am_SP + 2)), some (am_r 1), some (am_r 110), some (am_l 0), none, none, none, none]) (h' := H3) rfl rfl rfl ?_
  refine am_W_nrm (st' := [am_i 0]) (ls' := [some (am_r (am_SP + 2)), some (am_r 1), some (am_r 110), some (am_l 0), none, none, none, none]) (h' := H3) rfl rfl rfl ?_
  refine am_W_nrm (st' := []) (ls' := sx_ls 0 0 none none) (h' := H3) rfl rfl rfl ?_
  exact sx_loop hL hX 50 0 0 H3 none none (by decide) (by decide) (by decide) (by decide) v
end
