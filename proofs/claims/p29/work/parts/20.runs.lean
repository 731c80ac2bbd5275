theorem am_aft_mono2 {hd : Nat → Nat → Option (Option (Nat × Nat))} {k : Nat → am_L → List am_V → am_H → Option am_R} {pc len : Nat} {ls : am_L} {r : List am_V} {o : am_R} {h : am_H} {res : am_R} (hh : am_aft hd k pc len ls r (some o) = some res) (hok : am_oks h.1.length r) (hlok : am_loks h.1.length ls)
    (ho : am_mono h (am_rh o) ∧ am_rok o) (hk : ∀ pc ls st h, k pc ls st h = some res → am_okh h → am_oks h.1.length st → am_loks h.1.length ls → am_mono h (am_rh res) ∧ am_rok res) : am_mono (am_rh o) (am_rh res) := by
  unfold am_aft at hh
  rcases o with ⟨v, h'⟩ | ⟨x, h'⟩
  · obtain ⟨m1, v1⟩ := ho
    have m1' : am_mono h h' := m1
    exact (hk _ _ _ _ hh m1'.1 (am_oks_app.mpr ⟨am_vok_list v1, fun v hv => am_ok_mono m1'.2.1 (hok v hv)⟩) (fun i v hv => am_ok_mono m1'.2.1 (hlok i v hv))).1
  · obtain ⟨m1, v1⟩ := ho
    have m1' : am_mono h h' := m1
    dsimp only at hh
    split at hh
    · cases hh
    · cases hh; exact am_mono_rf m1'.1
    · rename_i t i hd1
      split at hh
      · rename_i l2 hst
        have hl2 : am_loks h'.1.length (l2.set i none) := by
          intro j w hj
          obtain ⟨-, hj2⟩ := am_get_lt hj
          by_cases hji : j = i
          · subst hji
            by_cases hlt : j < l2.length
            · rw [List.getElem?_set_self hlt] at hj2; cases hj2
            · rw [List.getElem?_eq_none_iff.mpr (by rw [List.length_set]; omega)] at hj2; cases hj2
          · rw [List.getElem?_set_ne (fun z => hji z.symm)] at hj2
            rcases am_st_get hst (am_get_of hj2) with ⟨e, -⟩ | ⟨-, -, e, -⟩
            · exact absurd e hji
            · exact am_ok_mono m1'.2.1 (hlok j w e)
        exact (hk _ _ _ _ hh m1'.1 (fun v hv => by cases hv) hl2).1
      · cases hh
theorem am_one_mono {P : am_PG} {ro : Nat → Option (Nat × Nat)} (hro : ∀ q k len, ro q = some (k, len) → len < 2147483648) {own : String} {cc : ByteArray} {hlj : List am_HE} {ini : Bool} {rt : Nat} {call : Nat → List am_V → am_H → Option am_R} {k : Nat → am_L → List am_V → am_H → Option am_R} {e : am_E} {pc : Nat} {ls : am_L} {st : List am_V} {h : am_H} {res : am_R}
    (hio : am_iok P own cc hlj ini pc e) (hh : am_one ro am_fty am_nf (am_na P) (am_rc P) (am_hdf hlj) rt call k e pc ls st h = some res) (hokh : am_okh h) (hok : am_oks h.1.length st) (hlok : am_loks h.1.length ls)
    (hcm : ∀ j ar h res, am_mkj P j → call j ar h = some res → am_okh h → am_oks h.1.length ar → am_mono h (am_rh res) ∧ am_rok res) (hk : ∀ pc ls st h, k pc ls st h = some res → am_okh h → am_oks h.1.length st → am_loks h.1.length ls → am_mono h (am_rh res) ∧ am_rok res) : am_mono h (am_rh res) ∧ am_rok res := by
  obtain ⟨len, ins, a, b, z⟩ := e
  obtain ⟨hd, hctl, hnr⟩ := hio
  unfold am_one at hh
  dsimp only at hh hctl hnr
  have hv0 : ∀ {x : Int}, am_ok h.1.length (.inl x) → am_vok (some (.inl x)) := fun hx w hw => by
    cases hw; exact ⟨hx, fun p q => by cases q⟩
  have hv1 : ∀ {x : Int}, am_ok h.1.length (.inr (.inl x)) → am_vok (some (.inr (.inl x))) := fun hx w hw => by
    cases hw; exact ⟨hx, fun p q => by cases q⟩
  split at hh
  · exact am_jmp_mono hh (fun pc q => hk _ _ _ _ q hokh hok hlok)
  · split at hh
    · obtain ⟨-, hok2⟩ := am_oks_cons.mp hok
      split at hh
      · exact hk _ _ _ _ hh hokh hok2 hlok
      · exact hk _ _ _ _ hh hokh hok2 hlok
    · cases hh
  · split at hh
    · obtain ⟨-, hok1⟩ := am_oks_cons.mp hok
      obtain ⟨-, hok2⟩ := am_oks_cons.mp hok1
      split at hh
      · exact hk _ _ _ _ hh hokh hok2 hlok
      · exact hk _ _ _ _ hh hokh hok2 hlok
    · cases hh
  · split at hh
    · obtain ⟨-, hok2⟩ := am_oks_cons.mp hok
      split at hh
      · exact am_jmp_mono hh (fun pc q => hk _ _ _ _ q hokh hok2 hlok)
      · split at hh
        · exact am_jmp_mono hh (fun pc q => hk _ _ _ _ q hokh hok2 hlok)
        · cases hh
    · cases hh
  · split at hh
    · obtain ⟨-, hok2⟩ := am_oks_cons.mp hok
      split at hh
      · exact am_jmp_mono hh (fun pc q => hk _ _ _ _ q hokh hok2 hlok)
      · cases hh
    · cases hh
  · split at hh
    · split at hh
      · cases hh; exact ⟨am_mono_rf hokh, hv0 (am_oks_cons.mp hok).1⟩
      · cases hh
    · cases hh
  · split at hh
    · split at hh
      · cases hh; exact ⟨am_mono_rf hokh, hv1 (am_oks_cons.mp hok).1⟩
      · cases hh
    · cases hh
  · split at hh
    · split at hh
      · cases hh; exact ⟨am_mono_rf hokh, fun w hw => by cases hw⟩
      · cases hh
    · cases hh
  · -- invokevirtual
    split at hh
    · rename_i p ar r hargs
      obtain ⟨e1, e2⟩ := am_args_inv hargs
      subst e1
      obtain ⟨o1, o2⟩ := am_oks_app.mp hok
      split at hh
      · split at hh
        · exact am_aft_mono hh o2 hlok (fun q hq => hcm _ _ _ _ hctl.2.1 hq hokh (am_oks_rev.mp o1)) hk
        · cases hh
      · cases hh
    · cases hh
  · -- invokespecial
    split at hh
    · split at hh
      · refine am_nx_mono hh (fun l s h' hq => ?_) hk
        cases hx : am_prim ro a st h with
        | none => rw [hx] at hq; cases hq
        | some x =>
          rw [hx] at hq
          cases hq
          obtain ⟨q1, q2⟩ := am_prim_mono hx hok hokh
          exact ⟨q1, q2, fun i v hv => am_ok_mono q1.2.1 (hlok i v hv)⟩
      · cases hh
    · rename_i h9
      split at hh
      · rename_i p ar r hargs
        obtain ⟨e1, e2⟩ := am_args_inv hargs
        subst e1
        obtain ⟨o1, o2⟩ := am_oks_app.mp hok
        split at hh
        · rcases hctl.2 with ⟨q, -⟩ | ⟨-, q, -⟩
          · exact absurd q h9
          · exact am_aft_mono hh o2 hlok (fun q9 hq => hcm _ _ _ _ q hq hokh (am_oks_rev.mp o1)) hk
        · cases hh
      · cases hh
  · -- invokestatic
    split at hh
    · split at hh
      · refine am_nx_mono hh (fun l s h' hq => ?_) hk
        cases hx : am_prim ro a st h with
        | none => rw [hx] at hq; cases hq
        | some x =>
          rw [hx] at hq
          cases hq
          obtain ⟨q1, q2⟩ := am_prim_mono hx hok hokh
          exact ⟨q1, q2, fun i v hv => am_ok_mono q1.2.1 (hlok i v hv)⟩
      · cases hh
    · rename_i h9
      split at hh
      · rename_i ar r hargs
        obtain ⟨e1, e2⟩ := am_args_inv hargs
        subst e1
        obtain ⟨o1, o2⟩ := am_oks_app.mp hok
        split at hh
        · rcases hctl.2 with ⟨q, -⟩ | ⟨-, q, -⟩
          · exact absurd q h9
          · exact am_aft_mono hh o2 hlok (fun q9 hq => hcm _ _ _ _ q hq hokh (am_oks_rev.mp o1)) hk
        · cases hh
      · cases hh
  · -- new
    rename_i idx
    split at hh
    · rename_i h50
      split at hh
      · cases hh
        rcases hctl with ⟨-, ht, -⟩ | ⟨q, -⟩
        · obtain ⟨-, -, -, -, -, -, -, -, h4, -⟩ := ht
          exact ⟨⟨hokh, Nat.le_refl _, Nat.le_add_right _ _, Nat.le_add_right _ _, fun _ _ => ⟨rfl, rfl⟩⟩, h4⟩
        · omega
      · cases hh
    · rename_i h50
      refine am_nx_mono hh (fun l s h' hq => ?_) hk
      have hq' : am_norm ro am_fty am_nf (.new idx) a b z ls st h = some (l, s, h') := hq
      obtain ⟨q1, q2, q3, -⟩ := am_norm_mono hq' hok hlok hokh (fun i _ => by
        rcases hctl with ⟨q, -⟩ | ⟨q, -⟩
        · exact absurd q h50
        · exact q) hro
      exact ⟨q1, q2, q3⟩
  · rename_i n1 n2 n3 n4 n5 n6 n7 n8 n9 n10 n11 n12
    refine am_nx_mono hh (fun l s h' hq => ?_) hk
    obtain ⟨q1, q2, q3, -⟩ := am_norm_mono hq hok hlok hokh (fun i hi => (n12 i hi).elim) hro
    exact ⟨q1, q2, q3⟩
theorem am_run_mono {P : am_PG} {ro : Nat → Option (Nat × Nat)} (hro : ∀ q k len, ro q = some (k, len) → len < 2147483648) {own : String} {cc : ByteArray} {hlj : List am_HE} {ini : Bool} {rt : Nat} {call : Nat → List am_V → am_H → Option am_R} {C : Nat → Option am_E} (hC : ∀ pc e, C pc = some e → am_iok P own cc hlj ini pc e)
    (hcm : ∀ j ar h res, am_mkj P j → call j ar h = some res → am_okh h → am_oks h.1.length ar → am_mono h (am_rh res) ∧ am_rok res) : ∀ (N pc : Nat) (ls : am_L) (st : List am_V) (h : am_H) (res : am_R), am_run ro am_fty am_nf (am_na P) (am_rc P) C (am_hdf hlj) rt call N pc ls st h = some res → am_okh h → am_oks h.1.length st → am_loks h.1.length ls → am_mono h (am_rh res) ∧ am_rok res := by
  intro N
  induction N with
  | zero => intro pc ls st h res hh; cases hh
  | succ N ih =>
    intro pc ls st h res hh hokh hok hlok
    rw [am_run] at hh
    split at hh
    · cases hh
    · rename_i e he
      exact am_one_mono hro (hC pc e he) hh hokh hok hlok hcm (fun pc ls st h q q1 q2 q3 => ih pc ls st h res q q1 q2 q3)
