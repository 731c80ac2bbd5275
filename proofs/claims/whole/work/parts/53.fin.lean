/-! the state behind the constructors, as a start of the loop; the end out of a relation that all calls keep -/
def ak_ρ0 : List Nat := [87, 9, 10, 87, 88]
def ak_h0 : ak_S := (am2_it (fun _ _ => 0) 0 am_hC2_I, am2_it (fun _ _ => 0) 0 am_hC2_J, 211, 1890385)
def ak_g0 (X : Nat → Int) : ak_G := (am2_it (am_I0 X) 0 am_hC2_I, am2_it (fun _ _ => 0) 0 am_hC2_J, 0, 0)
def am2_has {α : Type} (p : Nat) (W : am2_O α) : Bool := W.any (fun x => x.1 == p && x.2.isNone)
theorem am2_it_in {α : Type} {b b' : Nat → Nat → α} {d : α} {p k : Nat} : ∀ (W : am2_O α), am2_has p W = true → am2_it b d W p k = am2_it b' d W p k
  | [], h => by cases h
  | (q, none) :: r, h => by
    show (if p = q then d else am2_it b d r p k) = (if p = q then d else am2_it b' d r p k)
    by_cases hq : p = q
    · rw [if_pos hq, if_pos hq]
    · rw [if_neg hq, if_neg hq]
      refine am2_it_in r ?_
      unfold am2_has at h ⊢
      rw [List.any_cons] at h
      have : ((q, (none : Option (Nat × α))).1 == p) = false := by
        show (q == p) = false
        rw [beq_eq_false_iff_ne]
        exact fun z => hq z.symm
      rw [this] at h
      exact h
  | (q, some (j, v)) :: r, h => by
    have h2 : am2_has p r = true := by
      unfold am2_has at h ⊢
      rw [List.any_cons] at h
      have : (((q, some (j, v)) : Nat × Option (Nat × α)).1 == p && ((q, some (j, v)) : Nat × Option (Nat × α)).2.isNone) = false := by
        show ((q == p) && false) = false
        exact Bool.and_false _
      rw [this] at h
      exact h
    show (if p = q then (if k = j then v else am2_it b d r p k) else am2_it b d r p k) = (if p = q then (if k = j then v else am2_it b' d r p k) else am2_it b' d r p k)
    rw [am2_it_in r h2 (b' := b')]
def am2_hasnt {α : Type} (p : Nat) (W : am2_O α) : Bool := W.all (fun x => x.1 != p)
theorem am2_it_out {α : Type} {b : Nat → Nat → α} {d : α} {p k : Nat} : ∀ (W : am2_O α), am2_hasnt p W = true → am2_it b d W p k = b p k
  | [], _ => rfl
  | (q, none) :: r, h => by
    unfold am2_hasnt at h
    rw [List.all_cons, Bool.and_eq_true] at h
    have hq : p ≠ q := fun z => (bne_iff_ne.mp h.1) z.symm
    show (if p = q then d else am2_it b d r p k) = _
    rw [if_neg hq]
    exact am2_it_out r h.2
  | (q, some (j, v)) :: r, h => by
    unfold am2_hasnt at h
    rw [List.all_cons, Bool.and_eq_true] at h
    have hq : p ≠ q := fun z => (bne_iff_ne.mp h.1) z.symm
    show (if p = q then (if k = j then v else am2_it b d r p k) else am2_it b d r p k) = _
    rw [if_neg hq]
    exact am2_it_out r h.2
def am2_all {α : Type} (W : am2_O α) : Bool := (List.range 212).all (fun p => p == 0 || am2_has p W)
set_option maxRecDepth 100000 in
theorem am2_allI : am2_all am_hC2_I = true := by decide +kernel
set_option maxRecDepth 100000 in
theorem am2_outI : am2_hasnt 0 am_hC2_I = true := by decide +kernel
def am2_top {α : Type} (W : am2_O α) : Bool := W.all (fun x => decide (x.1 < am_SP))
set_option maxRecDepth 100000 in
theorem am2_topI : am2_top am_hC2_I = true := by decide +kernel
theorem am2_hasnt_top {α : Type} {W : am2_O α} (h : am2_top W = true) {p : Nat} (hp : am_SP ≤ p) : am2_hasnt p W = true := by
  unfold am2_hasnt
  unfold am2_top at h
  rw [List.all_eq_true] at h ⊢
  intro x hx
  have := of_decide_eq_true (h x hx)
  exact bne_iff_ne.mpr (by omega)
theorem ak_gok0 {L : Nat} {X : Nat → Int} : ak_gok (L, X) (ak_g0 X) := fun p k hp => am2_it_out _ (am2_hasnt_top am2_topI hp)
set_option maxRecDepth 100000 in
theorem ak_Rf0 : ak_Rf ak_ρ0 = am2_it am_R0 0 am_hC2_R := by
  have rd : ∀ p k v, am2_rd am2_b.2 0 am_hC2_R p k = some v → v = am2_it am_R0 0 am_hC2_R p k := fun p k v h => (am2_rd_it am2_bR_ok _ _ _ _ h).symm
  funext p k
  unfold ak_Rf
  by_cases h1 : p = 1 ∧ k = 7
  · rw [if_pos h1, h1.1, h1.2]; exact rd 1 7 87 (by decide +kernel)
  rw [if_neg h1]
  by_cases h2 : p = 2 ∧ k = 1
  · rw [if_pos h2, h2.1, h2.2]; exact rd 2 1 9 (by decide +kernel)
  rw [if_neg h2]
  by_cases h3 : p = 2 ∧ k = 2
  · rw [if_pos h3, h3.1, h3.2]; exact rd 2 2 10 (by decide +kernel)
  rw [if_neg h3]
  by_cases h4 : p = 32 ∧ k = 6
  · rw [if_pos h4, h4.1, h4.2]; exact rd 32 6 87 (by decide +kernel)
  rw [if_neg h4]
  by_cases h5 : p = 32 ∧ k = 7
  · rw [if_pos h5, h5.1, h5.2]; exact rd 32 7 88 (by decide +kernel)
  rw [if_neg h5]
theorem ak_h0_1 : ak_h0.1 = am2_it (fun _ _ => (0 : Int)) 0 am_hC2_I := by
  unfold ak_h0
  with_reducible rfl
theorem ak_start (X : Nat → Int) : am_hp0 X am_hC2 = ak_ov 2 (ak_g0 X) ak_ρ0 (ak_mrg ak_h0 ak_h0 0) := by
  have eI : ∀ p k, am2_it (am_I0 X) 0 am_hC2_I p k = if ak_D 2 p = true then (ak_mrg ak_h0 ak_h0 0).1 p k else (ak_g0 X).1 p k := by
    intro p k
    by_cases hp : p < 212
    · rw [if_pos (show ak_D 2 p = true from decide_eq_true hp)]
      have e1 : am2_it (am_I0 X) 0 am_hC2_I p k = ak_h0.1 p k := by
        have h1 := List.all_eq_true.mp am2_allI p (List.mem_range.mpr hp)
        rw [Bool.or_eq_true] at h1
        rcases h1 with h1 | h1
        · have : p = 0 := beq_iff_eq.mp h1
          subst this
          have e0 : ak_h0.1 0 k = am2_it (fun _ _ => (0 : Int)) 0 am_hC2_I 0 k := congrFun (congrFun ak_h0_1 0) k
          rw [e0, am2_it_out (b := am_I0 X) _ am2_outI, am2_it_out (b := fun _ _ => (0 : Int)) _ am2_outI]
          unfold am_I0
          rw [if_neg (by unfold am_SP; omega), if_neg (by unfold am_SP; omega), if_neg (by unfold am_SP; omega), if_neg (by unfold am_SP; omega)]
        · rw [congrFun (congrFun ak_h0_1 p) k]; exact am2_it_in _ h1
      rw [e1]
      show _ = (if p < 110 then ak_h0.1 p k else if p < 211 then ak_h0.1 p k else 0)
      by_cases h1 : p < 110
      · rw [if_pos h1]
      · rw [if_neg h1]
        by_cases h2 : p < 211
        · rw [if_pos h2]
        · rw [if_neg h2]
          have : p = 211 := by omega
          subst this
          rfl
    · rw [if_neg (show ¬ ak_D 2 p = true from fun z => hp (of_decide_eq_true z))]; rfl
  have eJ : ∀ p k, am2_it (fun _ _ => (0 : Int)) 0 am_hC2_J p k = if ak_D 2 p = true then (ak_mrg ak_h0 ak_h0 0).2.1 p k else (ak_g0 X).2.1 p k := by
    intro p k
    by_cases hp : p < 212
    · rw [if_pos (show ak_D 2 p = true from decide_eq_true hp)]
      show _ = (if p < 110 then ak_h0.2.1 p k else if p < 211 then ak_h0.2.1 p k else if p = 211 ∧ k = 0 then 0 else 0)
      by_cases h1 : p < 110
      · rw [if_pos h1]; rfl
      · rw [if_neg h1]
        by_cases h2 : p < 211
        · rw [if_pos h2]; rfl
        · rw [if_neg h2]
          have : p = 211 := by omega
          subst this
          rw [ite_self]
          rfl
    · rw [if_neg (show ¬ ak_D 2 p = true from fun z => hp (of_decide_eq_true z))]; rfl
  unfold am_hp0 am2_rp ak_ov
  rw [ak_Rf0]
  refine congrArg (Prod.mk _) ?_
  refine congr (congrArg Prod.mk (funext fun p => funext fun k => eI p k)) ?_
  exact congr (congrArg Prod.mk (funext fun p => funext fun k => eJ p k)) rfl
set_option maxRecDepth 100000 in
theorem am_head2 {L d : Nat} {X : Nat → Int} {Q : am_R → Prop} (hd : 20 ≤ d) (w : am_W (am_ro L) d 0 23 [some (am_r (am_SP + 2)), some (am_r 1), some (am_r 110), some (am_r 211), some (am_i 0), none, none, none] [] (am_hp0 X am_hC2) Q) : am_W (am_ro L) d 0 0 (am_ent 8 [am_r (am_SP + 2)]) [] (am_h0 X) Q := by
  refine am_W_new (st' := [am_r 1]) (ls' := am_ent 8 [am_r (am_SP + 2)]) (h' := am_hp0 X am_hA0) rfl (by decide) rfl ?_
  refine am_W_nrm (st' := [am_r 1, am_r 1]) (ls' := am_ent 8 [am_r (am_SP + 2)]) (h' := am_hp0 X am_hA0) rfl rfl rfl ?_
  refine am_W_spec (a := 165) rfl (by decide) (ar := []) (p := 1) (r := [am_r 1]) rfl ⟨by decide, by decide⟩ (by decide) (am_M_deep hd am_mA) (fun v h' q => ?_) (am_K2_none (fun x h' q => by cases q))
  cases q
  refine am_W_nrm (st' := []) (ls' := [some (am_r (am_SP + 2)), some (am_r 1), none, none, none, none, none, none]) (h' := am_hp0 X am_hA1) rfl rfl rfl ?_
  refine am_W_new (st' := [am_r 110]) (ls' := [some (am_r (am_SP + 2)), some (am_r 1), none, none, none, none, none, none]) (h' := am_hp0 X am_hB0) rfl (by decide) rfl ?_
  refine am_W_nrm (st' := [am_r 110, am_r 110]) (ls' := [some (am_r (am_SP + 2)), some (am_r 1), none, none, none, none, none, none]) (h' := am_hp0 X am_hB0) rfl rfl rfl ?_
  refine am_W_spec (a := 196) rfl (by decide) (ar := []) (p := 110) (r := [am_r 110]) rfl ⟨by decide, by decide⟩ (by decide) (am_M_deep hd am_mB) (fun v h' q => ?_) (am_K2_none (fun x h' q => by cases q))
  cases q
  refine am_W_nrm (st' := []) (ls' := [some (am_r (am_SP + 2)), some (am_r 1), some (am_r 110), none, none, none, none, none]) (h' := am_hp0 X am_hB1) rfl rfl rfl ?_
  refine am_W_nrm (st' := [am_i 1]) (ls' := [some (am_r (am_SP + 2)), some (am_r 1), some (am_r 110), none, none, none, none, none]) (h' := am_hp0 X am_hB1) rfl rfl rfl ?_
  refine am_W_nrm (st' := [am_r 211]) (ls' := [some (am_r (am_SP + 2)), some (am_r 1), some (am_r 110), none, none, none, none, none]) (h' := am_hp0 X am_hC2) rfl rfl rfl ?_
  refine am_W_nrm (st' := []) (ls' := [some (am_r (am_SP + 2)), some (am_r 1), some (am_r 110), some (am_r 211), none, none, none, none]) (h' := am_hp0 X am_hC2) rfl rfl rfl ?_
  refine am_W_nrm (st' := [am_i 0]) (ls' := [some (am_r (am_SP + 2)), some (am_r 1), some (am_r 110), some (am_r 211), none, none, none, none]) (h' := am_hp0 X am_hC2) rfl rfl rfl ?_
  refine am_W_nrm (st' := []) (ls' := [some (am_r (am_SP + 2)), some (am_r 1), some (am_r 110), some (am_r 211), some (am_i 0), none, none, none]) (h' := am_hp0 X am_hC2) rfl rfl rfl ?_
  exact w
theorem am_fin {L d : Nat} (hL : L ≤ 3072) {X : Nat → Int} (hX : ∀ k, ak_r32 (X k)) (hd : 19 ≤ d) (hd2 : d + 1 ≤ 1000) {Rel : Nat → List Nat → ak_S → ak_S → Prop} (h0 : Rel 0 ak_ρ0 ak_h0 ak_h0)
    (hs : ∀ n ρ hc hm, 6 * n + 6 ≤ L → Rel n ρ hc hm → Rel (n + 1) ρ hc hm ∧ ak_calls (L, X) d ρ hc hm (Rel (n + 1))) (hcnt : ∀ n ρ hc hm, Rel n ρ hc hm → hc.2.2.1 ≤ 601024 ∧ hc.2.2.2 ≤ 7293034) :
    ∃ (d F N : Nat) (h' : am_H), d ≤ 1000 ∧ am_run (am_ro L) am_fty am_nf (am_na am_P) (am_rc am_P) (am_co am_P 0) (am_hdf []) 2 (am_exec am_P (am_ro L) F d) N 0 (am_ent 8 [am_r (am_SP + 2)]) [] (am_h0 X) = some (.inl (some (.inl 1), h')) ∧ am_hc h' ≤ 601024 ∧ am_hs h' ≤ 7293034 := by
  have w := am_loop (e := (L, X)) (d := d) hL hX hs (Q := fun ρ x => ∃ n hc hm o, x = .inl (some (.inl 1), ak_mrg hc hm o) ∧ Rel n ρ hc hm) (fun n ρ hc hm o r => ⟨n, hc, hm, o, rfl, r⟩) L 0 ak_ρ0 ak_h0 ak_h0 0 (by show L < _; omega) h0
  obtain ⟨ρ', res, ⟨n, hc, hm, o, rfl, hr⟩, H⟩ := w
  obtain ⟨F, N, hrun⟩ := H (ak_g0 X) ak_gok0
  have w2 : am_W (am_ro L) (d + 1) 0 23 [some (am_r (am_SP + 2)), some (am_r 1), some (am_r 110), some (am_r 211), some (am_i 0), none, none, none] [] (am_hp0 X am_hC2) (fun r => ∃ h', r = .inl (some (.inl 1), h') ∧ am_hc h' ≤ 601024 ∧ am_hs h' ≤ 7293034) := by
    rw [ak_start X]
    exact ⟨F, N, _, hrun, _, rfl, (hcnt n ρ' hc hm hr).1, (hcnt n ρ' hc hm hr).2⟩
  obtain ⟨F2, N2, res2, g1, h', rfl, g2, g3⟩ := am_head2 (by omega) w2
  exact ⟨d + 1, F2, N2, h', hd2, g1, g2, g3⟩
