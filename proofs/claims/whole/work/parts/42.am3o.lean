/-! AM3: each instruction is sound -/
section AM3O
variable {e : ak_X3} {r d j : Nat} {ρ : List Nat} {h : ak_S} {pc len a b : Nat} {ls : am_L} {st : List am_V} {Q : ak_R3 → Prop} {Q' : List Nat → ak_R3 → Prop} {z : Int} {ins : Instr} {k : Nat → am_L → List am_V → ak_S → Prop}
theorem am3_fl_ok : ∀ (l : am_L) (c : am_L → Prop), am3_fl l c → c l
  | [], _, h => h
  | o :: l, c, h => am3_fl_ok l (fun l' => c (o :: l')) h
theorem am3_nrm_ok (hk : ∀ pc ls st h, k pc ls st h → ak_W1 e r d j ρ pc ls st h Q') (hC : am_co am_P j pc = some (len, ins, a, b, z)) (hi : am_nrm ins = true) (hh : am3_nrm ins ls st (fun l s => k (pc + len) l s h)) : ak_W1 e r d j ρ pc ls st h Q' := by
  have key : ∀ s, am_loc ins ls st = some (ls, s) → k (pc + len) ls s h → ak_W1 e r d j ρ pc ls st h Q' := by
    intro s hl hq
    refine ak_W1_nrm hC hi (fun g hg => ?_) (hk _ _ _ _ hq)
    unfold am_norm
    rw [hl]
  unfold am3_nrm at hh
  split at hh
  · split at hh
    · rename_i hg; exact key _ (by unfold am_loc; dsimp only; rw [hg]) hh
    · exact hh.elim
  · split at hh
    · rename_i hg; exact key _ (by unfold am_loc; dsimp only; rw [hg]) hh
    · exact hh.elim
  · split at hh
    · rename_i hg; exact key _ (by unfold am_loc; dsimp only; rw [hg]) hh
    · exact hh.elim
  · split at hh
    · rename_i hg; exact key _ (by unfold am_loc; dsimp only; rw [hg]) hh
    · exact hh.elim
  · split at hh
    · rename_i hg; exact key _ (by unfold am_loc; dsimp only; rw [hg]) hh
    · exact hh.elim
  · split at hh
    · rename_i hg; exact key _ (by unfold am_loc; dsimp only; rw [hg]) hh
    · exact hh.elim
  · split at hh
    · rename_i l s hl
      refine ak_W1_nrm hC hi (fun g hg => ?_) (hk _ _ _ _ (am3_fl_ok _ _ hh))
      unfold am_norm
      rw [hl]
    · rename_i hl
      split at hh
      · rename_i s ha
        refine ak_W1_nrm hC hi (fun g hg => ?_) (hk _ _ _ _ hh)
        unfold am_norm
        rw [hl]
        dsimp only
        rw [ha]
      · exact hh.elim
theorem am3_tg_some {off : Int} {kk : Nat → Prop} (hh : am3_tg pc off kk) : ∃ t, am_tgt pc off = some t ∧ kk t := by
  unfold am3_tg at hh
  split at hh
  · rename_i t ht; exact ⟨t, ht, hh⟩
  · exact hh.elim
theorem am3_if_ok {c : ClassFile.Cond} {x y : Int} {A B : Prop} (hh : am3_if c x y A B) : (am_cmp c x y = true ∧ A) ∨ (am_cmp c x y = false ∧ B) := by
  unfold am3_if at hh
  unfold am_cmp
  cases c <;> dsimp only at hh ⊢
  case eq =>
    by_cases hx : x = y
    · exact Or.inl ⟨decide_eq_true hx, hh.1 hx⟩
    · exact Or.inr ⟨decide_eq_false hx, hh.2 hx⟩
  case ne =>
    by_cases hx : x = y
    · exact Or.inr ⟨by rw [decide_eq_true hx]; rfl, hh.2 hx⟩
    · exact Or.inl ⟨by rw [decide_eq_false hx]; rfl, hh.1 hx⟩
  case lt =>
    by_cases hx : x < y
    · exact Or.inl ⟨decide_eq_true hx, hh.1 hx⟩
    · exact Or.inr ⟨decide_eq_false hx, hh.2 (by omega)⟩
  case ge =>
    by_cases hx : x < y
    · exact Or.inr ⟨by rw [decide_eq_true hx]; rfl, hh.2 hx⟩
    · exact Or.inl ⟨by rw [decide_eq_false hx]; rfl, hh.1 (by omega)⟩
  case gt =>
    by_cases hx : y < x
    · exact Or.inl ⟨decide_eq_true hx, hh.1 hx⟩
    · exact Or.inr ⟨decide_eq_false hx, hh.2 (by omega)⟩
  case le =>
    by_cases hx : y < x
    · exact Or.inr ⟨by rw [decide_eq_true hx]; rfl, hh.2 hx⟩
    · exact Or.inl ⟨by rw [decide_eq_false hx]; rfl, hh.1 (by omega)⟩
theorem am3_tsw_ok {kk : Nat → Prop} {x : Int} : ∀ (l : List Int) (lo : Int), am3_tsw kk pc x lo l → lo ≤ x → (hx : (x - lo).toNat < l.length) → am3_tg pc l[(x - lo).toNat] kk
  | [], lo, _, _, hx => absurd hx (Nat.not_lt_zero _)
  | o :: l, lo, hh, h1, hx => by
    by_cases hxl : x = lo
    · have e0 : (x - lo).toNat = 0 := by omega
      simp only [e0, List.getElem_cons_zero]
      exact hh.1 hxl
    · have e1 : (x - lo).toNat = (x - (lo + 1)).toNat + 1 := by omega
      simp only [e1, List.getElem_cons_succ]
      exact am3_tsw_ok l (lo + 1) hh.2 (by omega) (by rw [e1, List.length_cons] at hx; omega)
theorem am3_lsw_ok {kk : Nat → Prop} {x dd : Int} : ∀ (l : List (Int × Int)), am3_lsw kk pc x l → (am3_lsn x l → am3_tg pc dd kk) → am3_tg pc (Op.lookupswitch.offset l dd x) kk
  | [], _, h2 => h2 trivial
  | (v, o) :: l, hh, h2 => by
    rw [Op.lookupswitch.offset_cons]
    by_cases hx : v = x
    · rw [if_pos hx]; exact hh.1 hx.symm
    · rw [if_neg hx]
      exact am3_lsw_ok l hh.2 (fun hn => h2 ⟨fun q => hx q.symm, hn⟩)
theorem am3_call_ok {ar s : List am_V} {X : Nat → ak_S → Prop} (hk : ∀ pc ls st h, k pc ls st h → ak_W1 e r d j ρ pc ls st h Q')
    (hC : am_co am_P j pc = some (len, ins, a, b, z))
    (hs : ∀ g (call : Nat → List am_V → am_H → Option am_R) (kk : Nat → am_L → List am_V → am_H → Option am_R), ak_gok e g → am_one (am_ro e.1) am_fty am_nf (am_na am_P) (am_rc am_P) (am_hdf (am_hl am_P j)) (am_rtag (am_re am_P j)) call kk (len, ins, a, b, z) pc ls st (ak_ov r g ρ h) = am_aft (am_hdf (am_hl am_P j)) kk pc len ls s (call a ar (ak_ov r g ρ h)))
    (hX : ∀ x h', X x h' → (am_hdf (am_hl am_P j) pc x = some none ∧ Q' ρ (.inr (x, h'))) ∨ ∃ t i l, am_hdf (am_hl am_P j) pc x = some (some (t, i)) ∧ am_st ls i (.inr (.inr 0)) = some l ∧ ak_W1 e r d j ρ t (l.set i none) [] h' Q')
    (hh : am3_call e r d ρ a ar h s (fun s' h' => k (pc + len) ls s' h') X) : ak_W1 e r d j ρ pc ls st h Q' := by
  unfold am3_call at hh
  split at hh
  · refine ak_W1_aft hC hs hh (fun ρ' v h' q => ?_) (fun ρ' x h' q => ?_)
    · obtain ⟨rfl, q⟩ := q
      cases v with
      | none => exact hk _ _ _ _ q
      | some v => exact q.elim
    · obtain ⟨rfl, q⟩ := q
      exact hX _ _ q
  · refine ak_W1_aft hC hs hh (fun ρ' v h' q => ?_) (fun ρ' x h' q => ?_)
    · obtain ⟨rfl, q⟩ := q
      rcases v with - | v | v | v
      · exact q.elim
      · exact q.elim
      · exact hk _ _ _ _ q
      · exact q.elim
    · obtain ⟨rfl, q⟩ := q
      exact hX _ _ q
  · refine ak_W1_aft hC hs hh (fun ρ' v h' q => ?_) (fun ρ' x h' q => ?_)
    · obtain ⟨rfl, q⟩ := q
      rcases v with - | v | v | v
      · exact q.elim
      · exact hk _ _ _ _ q
      · exact q.elim
      · exact q.elim
    · obtain ⟨rfl, q⟩ := q
      exact hX _ _ q
theorem am3_XB_ok (hk : ∀ pc ls st h, k pc ls st h → ak_W1 e r d j ρ pc ls st h Q') (hQ : ∀ x, Q x → Q' ρ x) {y : Nat} {h' : ak_S} (hh : am3_XB (am_hl am_P j) Q k pc ls y h') :
    (am_hdf (am_hl am_P j) pc y = some none ∧ Q' ρ (.inr (y, h'))) ∨ ∃ t i l, am_hdf (am_hl am_P j) pc y = some (some (t, i)) ∧ am_st ls i (.inr (.inr 0)) = some l ∧ ak_W1 e r d j ρ t (l.set i none) [] h' Q' := by
  unfold am3_XB at hh
  split at hh
  · rename_i h1; exact Or.inl ⟨h1, hQ _ hh⟩
  · rename_i t i h1
    split at hh
    · rename_i l h2; exact Or.inr ⟨t, i, l, h1, h2, hk _ _ _ _ hh⟩
    · exact hh.elim
  · exact hh.elim
theorem am3_X_ok0 (hk : ∀ pc ls st h, k pc ls st h → ak_W1 e r d j ρ pc ls st h Q') (hQ : ∀ x, Q x → Q' ρ x) {hl : List am_HE} (he : am_hl am_P j = hl) {x : Nat} {h' : ak_S} (hh : am3_X hl Q k a pc ls x h') :
    (am_hdf (am_hl am_P j) pc x = some none ∧ Q' ρ (.inr (x, h'))) ∨ ∃ t i l, am_hdf (am_hl am_P j) pc x = some (some (t, i)) ∧ am_st ls i (.inr (.inr 0)) = some l ∧ ak_W1 e r d j ρ t (l.set i none) [] h' Q' := by
  unfold am3_X at hh
  by_cases ht : am3_thr.elem a = true
  · rw [if_pos ht] at hh
    cases hl with
    | nil => exact Or.inl ⟨by rw [he]; rfl, hQ _ hh⟩
    | cons y l =>
      obtain ⟨h0, h1, h2, h3, h4⟩ := hh
      rw [← he] at h0 h1 h2 h3
      match x, h4 with
      | 0, _ => exact am3_XB_ok hk hQ (h0 rfl)
      | 1, _ => exact am3_XB_ok hk hQ (h1 rfl)
      | 2, _ => exact am3_XB_ok hk hQ (h2 rfl)
      | 3, _ => exact am3_XB_ok hk hQ (h3 rfl)
  · rw [if_neg ht] at hh
    exact hh.elim
theorem am3_X_ok (hk : ∀ pc ls st h, k pc ls st h → ak_W1 e r d j ρ pc ls st h Q') (hQ : ∀ x, Q x → Q' ρ x) {x : Nat} {h' : ak_S} (hh : am3_X (am_hl am_P j) Q k a pc ls x h') :
    (am_hdf (am_hl am_P j) pc x = some none ∧ Q' ρ (.inr (x, h'))) ∨ ∃ t i l, am_hdf (am_hl am_P j) pc x = some (some (t, i)) ∧ am_st ls i (.inr (.inr 0)) = some l ∧ ak_W1 e r d j ρ t (l.set i none) [] h' Q' := am3_X_ok0 hk hQ rfl hh
theorem am3_prim_ok {kk : List am_V → ak_S → Prop} (hh : am3_prim e r a st h kk) : ∃ s' h', kk s' h' ∧ ∀ g, am_prim (am_ro e.1) a st (ak_ov r g ρ h) = some (s', ak_ov r g ρ h') := by
  unfold am3_prim at hh
  split at hh
  · split at hh
    · exact ⟨_, _, hh, fun g => rfl⟩
    · exact hh.elim
  · split at hh
    · exact ⟨_, _, hh, fun g => rfl⟩
    · exact hh.elim
  · split at hh
    · exact ⟨_, _, hh, fun g => rfl⟩
    · exact hh.elim
  · split at hh
    · split at hh
      · rename_i n dp q sp p s _ _ c m c2 m2 hp hq
        split at hh
        · rename_i hc
          obtain ⟨rfl, hc2, hc3⟩ := hc
          have hD := am3_kd_D hp hc2
          have hD2 := am3_kd_D hq hc3
          split at hh
          · refine ⟨_, _, hh.2, fun g => ?_⟩
            unfold am_prim
            dsimp only
            rw [am3_kd_ok (ρ := ρ) (g := g) (h := h) hp, am3_kd_ok (ρ := ρ) (g := g) (h := h) hq]
            dsimp only
            rw [if_pos ⟨⟨rfl, hc2, hc3, Or.inl rfl⟩, hh.1⟩, if_pos rfl, ak_ov_cpy2 hD hD2]
            rfl
          · refine ⟨_, _, hh.2, fun g => ?_⟩
            unfold am_prim
            dsimp only
            rw [am3_kd_ok (ρ := ρ) (g := g) (h := h) hp, am3_kd_ok (ρ := ρ) (g := g) (h := h) hq]
            dsimp only
            rw [if_pos ⟨⟨rfl, hc2, hc3, Or.inr rfl⟩, hh.1⟩, if_neg (by decide), ak_ov_cpy1 hD hD2]
            rfl
          · exact hh.elim
        · exact hh.elim
      · exact hh.elim
    · exact hh.elim
  · exact hh.elim
theorem am3_one_ok (hk : ∀ pc ls st h, k pc ls st h → ak_W1 e r d j ρ pc ls st h Q') (hQ : ∀ x, Q x → Q' ρ x) (hh : am3_one e r d ρ (am_hl am_P j) (am_rtag (am_re am_P j)) Q k (am_co am_P j pc) pc ls st h) : ak_W1 e r d j ρ pc ls st h Q' := by
  unfold am3_one at hh
  split at hh
  · exact hh.elim
  · rename_i len ins a b z hC
    split at hh
    -- goto
    · obtain ⟨t, ht, hh⟩ := am3_tg_some hh
      refine ak_W1_one hC (fun g call kk hg => ?_) (hk _ _ _ _ hh)
      show am_jmp kk ls st _ (am_tgt pc _) = _
      rw [ht]; rfl
    -- ifCond
    · split at hh
      · obtain ⟨t, ht, hh⟩ := am3_tg_some hh
        rcases am3_if_ok hh with ⟨hc, hh⟩ | ⟨hc, hh⟩
        · refine ak_W1_one hC (fun g call kk hg => ?_) (hk _ _ _ _ hh)
          unfold am_one; dsimp only; rw [ht]; exact if_pos hc
        · refine ak_W1_one hC (fun g call kk hg => ?_) (hk _ _ _ _ hh)
          unfold am_one; dsimp only; rw [ht]; exact if_neg (by rw [hc]; exact Bool.false_ne_true)
      · exact hh.elim
    -- if_icmp
    · split at hh
      · obtain ⟨t, ht, hh⟩ := am3_tg_some hh
        rcases am3_if_ok hh with ⟨hc, hh⟩ | ⟨hc, hh⟩
        · refine ak_W1_one hC (fun g call kk hg => ?_) (hk _ _ _ _ hh)
          unfold am_one; dsimp only; rw [ht]; exact if_pos hc
        · refine ak_W1_one hC (fun g call kk hg => ?_) (hk _ _ _ _ hh)
          unfold am_one; dsimp only; rw [ht]; exact if_neg (by rw [hc]; exact Bool.false_ne_true)
      · exact hh.elim
    -- tableswitch
    · rename_i dd lo hi offs
      split at hh
      · rename_i x s
        obtain ⟨h0, h1, h2⟩ := hh
        have hlen : offs.toList.length = (hi - lo + 1).toNat := by
          by_cases hq : offs.toList.length = (hi - lo + 1).toNat
          · exact hq
          · rw [if_neg hq] at h0; exact h0.elim
        by_cases hx : x < lo ∨ hi < x
        · obtain ⟨t, ht, hh⟩ := am3_tg_some (h1 hx)
          refine ak_W1_one hC (fun g call kk hg => ?_) (hk _ _ _ _ hh)
          unfold am_one; dsimp only; rw [if_pos hx, ht]; rfl
        · have hlt : (x - lo).toNat < offs.toList.length := by rw [hlen]; omega
          obtain ⟨t, ht, hh⟩ := am3_tg_some (am3_tsw_ok _ _ h2 (by omega) hlt)
          refine ak_W1_one hC (fun g call kk hg => ?_) (hk _ _ _ _ hh)
          have e1 : offs[(x - lo).toNat]? = some offs.toList[(x - lo).toNat] := by
            rw [← Array.getElem?_toList]; exact List.getElem?_eq_getElem hlt
          unfold am_one; dsimp only; rw [if_neg hx, e1]; dsimp only; rw [ht]; rfl
      · exact hh.elim
    -- lookupswitch
    · rename_i dd ps
      split at hh
      · rename_i x s
        obtain ⟨h0, h1, h2⟩ := hh
        have hp : (ps.toList.zip (ps.toList.drop 1)).all (fun (u, v) => u.1 < v.1) = true := by
          by_cases hq : (ps.toList.zip (ps.toList.drop 1)).all (fun (u, v) => u.1 < v.1) = true
          · exact hq
          · rw [if_neg hq] at h0; exact h0.elim
        obtain ⟨t, ht, hh⟩ := am3_tg_some (am3_lsw_ok (dd := dd) _ h2 h1)
        refine ak_W1_one hC (fun g call kk hg => ?_) (hk _ _ _ _ hh)
        unfold am_one; dsimp only; rw [if_pos hp, ht]; rfl
      · exact hh.elim
    -- ireturn
    · split at hh
      · split at hh
        · rename_i hrt
          refine ak_W1_end hC (fun g call kk hg => ?_) (hQ _ hh)
          exact if_pos (Or.inl hrt)
        · rename_i hrt
          refine ak_W1_end hC (fun g call kk hg => ?_) (hQ _ hh.2)
          exact if_pos (Or.inr (Or.inl ⟨hrt, hh.1⟩))
        · rename_i hrt
          refine ak_W1_end hC (fun g call kk hg => ?_) (hQ _ hh.2)
          exact if_pos (Or.inr (Or.inr (Or.inl ⟨hrt, hh.1⟩)))
        · rename_i hrt
          refine ak_W1_end hC (fun g call kk hg => ?_) (hQ _ hh.2)
          exact if_pos (Or.inr (Or.inr (Or.inr ⟨hrt, hh.1⟩)))
        · exact hh.elim
      · exact hh.elim
    -- lreturn
    · split at hh
      · split at hh
        · rename_i hrt
          refine ak_W1_end hC (fun g call kk hg => ?_) (hQ _ hh)
          exact if_pos hrt
        · exact hh.elim
      · exact hh.elim
    -- return
    · split at hh
      · split at hh
        · rename_i hrt
          refine ak_W1_end hC (fun g call kk hg => ?_) (hQ _ hh)
          exact if_pos hrt
        · exact hh.elim
      · exact hh.elim
    -- invokevirtual
    · split at hh
      · rename_i p ar s hargs
        split at hh
        · rename_i c q hkd
          split at hh
          · rename_i hc
            refine am3_call_ok hk hC (fun g call kk hg => ?_) (fun x h' hx => am3_X_ok hk hQ hx) hh
            unfold am_one; dsimp only; rw [hargs]; dsimp only; rw [am3_kd_ok hkd]; exact if_pos hc
          · exact hh.elim
        · exact hh.elim
      · exact hh.elim
    -- invokestatic
    · split at hh
      · rename_i h9
        split at hh
        · rename_i h4
          obtain ⟨s', h', q1, q2⟩ := am3_prim_ok (ρ := ρ) hh
          refine ak_W1_one hC (fun g call kk hg => ?_) (hk _ _ _ _ q1)
          unfold am_one; dsimp only; rw [if_pos h9, if_pos h4, q2 g]; rfl
        · exact hh.elim
      · rename_i h9
        split at hh
        · rename_i ar s hargs
          split at hh
          · rename_i hc
            refine am3_call_ok hk hC (fun g call kk hg => ?_) (fun x h' hx => am3_X_ok hk hQ hx) hh
            unfold am_one; dsimp only; rw [if_neg h9, hargs]; exact if_pos hc
          · exact hh.elim
        · exact hh.elim
    -- invokespecial
    · exact hh.elim
    -- new
    · split at hh
      · rename_i hc
        refine ak_W1_end hC (fun g call kk hg => ?_) (hQ _ hh)
        unfold am_one; dsimp only; rw [if_pos hc.1, if_pos hc.2.1]
        unfold ak_lf ak_ov
        simp only [if_neg hc.2.2]
      · exact hh.elim
    -- getfield
    · split at hh
      · rename_i p s
        split at hh
        · rename_i c q hkd
          split at hh
          · rename_i hc
            unfold am3_gf at hh
            split at hh
            · rename_i hty
              split at hh
              · exact hh.elim
              · rename_i hp
                refine ak_W1_hp hC rfl rfl rfl (fun g hg => ?_) (hk _ _ _ _ hh)
                unfold am_hp; dsimp only; rw [am3_kd_ok hkd]; dsimp only; rw [if_pos hc]
                unfold am_fv; rw [hty]; (try dsimp only); rw [ak_ov_rd2 hkd (by omega)]; rfl
            · rename_i hty
              split at hh
              · rename_i x hx
                refine ak_W1_hp hC rfl rfl rfl (fun g hg => ?_) (hk _ _ _ _ hh)
                unfold am_hp; dsimp only; rw [am3_kd_ok hkd]; dsimp only; rw [if_pos hc]
                unfold am_fv; rw [hty]; (try dsimp only)
                rw [show (ak_ov r g ρ h).2.2.2.1 p b = x from am3_rf_ok hx]; rfl
              · exact hh.elim
            · rename_i n1 n2
              refine ak_W1_hp hC rfl rfl rfl (fun g hg => ?_) (hk _ _ _ _ hh)
              unfold am_hp; dsimp only; rw [am3_kd_ok hkd]; dsimp only; rw [if_pos hc]
              unfold am_fv
              split
              · exact absurd (by assumption) n1
              · exact absurd (by assumption) n2
              · rw [ak_ov_rd1 hg hkd]
          · exact hh.elim
        · exact hh.elim
      · exact hh.elim
    -- putfield
    · split at hh
      · rename_i v p s
        split at hh
        · rename_i c q hkd
          split at hh
          · rename_i hc
            have hD := am3_kd_D hkd hc.2
            split at hh
            · rename_i x
              split at hh
              · rename_i hty
                refine ak_W1_hp hC rfl rfl rfl (fun g hg => ?_) (hk _ _ _ _ hh)
                unfold am_hp; dsimp only; rw [am3_kd_ok hkd]; dsimp only; rw [if_pos hc, if_pos (Or.inl hty), ak_ov_up1 hD]
              · rename_i hty
                refine ak_W1_hp hC rfl rfl rfl (fun g hg => ?_) (hk _ _ _ _ hh.2)
                unfold am_hp; dsimp only; rw [am3_kd_ok hkd]; dsimp only; rw [if_pos hc, if_pos (Or.inr ⟨hty, hh.1⟩), ak_ov_up1 hD]
              · exact hh.elim
            · rename_i x
              split at hh
              · rename_i hty
                refine ak_W1_hp hC rfl rfl rfl (fun g hg => ?_) (hk _ _ _ _ hh)
                unfold am_hp; dsimp only; rw [am3_kd_ok hkd]; dsimp only; rw [if_pos hc, if_pos hty, ak_ov_up2 hD]
              · exact hh.elim
            · exact hh.elim
          · exact hh.elim
        · exact hh.elim
      · exact hh.elim
    -- iaload
    · split at hh
      · rename_i x p s
        split at hh
        · rename_i c n hkd
          split at hh
          · rename_i hc
            refine ak_W1_hp hC rfl rfl rfl (fun g hg => ?_) (hk _ _ _ _ hh.2)
            unfold am_hp; dsimp only; rw [am3_kd_ok hkd]; dsimp only; rw [if_pos ⟨hc, hh.1⟩, ak_ov_rd1 hg hkd]
          · exact hh.elim
        · exact hh.elim
      · exact hh.elim
    -- laload
    · split at hh
      · rename_i x p s
        split at hh
        · rename_i c n hkd
          split at hh
          · rename_i hc
            refine ak_W1_hp hC rfl rfl rfl (fun g hg => ?_) (hk _ _ _ _ hh.2)
            unfold am_hp; dsimp only; rw [am3_kd_ok hkd]; dsimp only; rw [if_pos ⟨hc.1, hh.1⟩, ak_ov_rd2 hkd hc.2]
          · exact hh.elim
        · exact hh.elim
      · exact hh.elim
    -- baload
    · split at hh
      · rename_i x p s
        split at hh
        · rename_i c n hkd
          split at hh
          · rename_i hc
            refine ak_W1_hp hC rfl rfl rfl (fun g hg => ?_) (hk _ _ _ _ hh.2)
            unfold am_hp; dsimp only; rw [am3_kd_ok hkd]; dsimp only; rw [if_pos ⟨hc, hh.1⟩, ak_ov_rd1 hg hkd]
          · exact hh.elim
        · exact hh.elim
      · exact hh.elim
    -- iastore
    · split at hh
      · rename_i x y p s
        split at hh
        · rename_i c n hkd
          split at hh
          · rename_i hc
            refine ak_W1_hp hC rfl rfl rfl (fun g hg => ?_) (hk _ _ _ _ hh.2)
            unfold am_hp; dsimp only; rw [am3_kd_ok hkd]; dsimp only; rw [if_pos ⟨hc, hh.1⟩, ak_ov_up1 (am3_kd_D hkd hc.2)]
          · exact hh.elim
        · exact hh.elim
      · exact hh.elim
    -- lastore
    · split at hh
      · rename_i x y p s
        split at hh
        · rename_i c n hkd
          split at hh
          · rename_i hc
            refine ak_W1_hp hC rfl rfl rfl (fun g hg => ?_) (hk _ _ _ _ hh.2)
            unfold am_hp; dsimp only; rw [am3_kd_ok hkd]; dsimp only; rw [if_pos ⟨hc, hh.1⟩, ak_ov_up2 (am3_kd_D hkd hc.2)]
          · exact hh.elim
        · exact hh.elim
      · exact hh.elim
    -- bastore
    · split at hh
      · rename_i x y p s
        split at hh
        · rename_i c n hkd
          split at hh
          · rename_i hc
            refine ak_W1_hp hC rfl rfl rfl (fun g hg => ?_) (hk _ _ _ _ hh.2)
            unfold am_hp; dsimp only; rw [am3_kd_ok hkd]; dsimp only; rw [if_pos ⟨⟨hc.2, Or.inl ⟨hc.1, hh.1.2⟩⟩, hh.1.1⟩, ak_ov_up1 (am3_kd_D hkd hc.2)]
          · split at hh
            · rename_i hc
              refine ak_W1_hp hC rfl rfl rfl (fun g hg => ?_) (hk _ _ _ _ hh.2)
              unfold am_hp; dsimp only; rw [am3_kd_ok hkd]; dsimp only; rw [if_pos ⟨⟨hc.2, Or.inr ⟨hc.1, hh.1.2⟩⟩, hh.1.1⟩, ak_ov_up1 (am3_kd_D hkd hc.2)]
            · exact hh.elim
        · exact hh.elim
      · exact hh.elim
    -- arraylength
    · split at hh
      · rename_i p s
        split at hh
        · rename_i c n hkd
          split at hh
          · rename_i hc
            refine ak_W1_hp hC rfl rfl rfl (fun g hg => ?_) (hk _ _ _ _ hh)
            unfold am_hp; dsimp only; rw [am3_kd_ok hkd]; dsimp only; rw [if_pos hc]
          · exact hh.elim
        · exact hh.elim
      · exact hh.elim
    -- ldc
    · split at hh
      · rename_i hb
        split at hh
        · rename_i hz
          refine ak_W1_hp hC rfl rfl rfl (fun g hg => ?_) (hk _ _ _ _ hh)
          unfold am_hp; dsimp only; rw [if_pos hb, if_pos hz]
        · exact hh.elim
      · rename_i hb
        refine ak_W1_hp hC rfl rfl rfl (fun g hg => ?_) (hk _ _ _ _ hh)
        unfold am_hp; dsimp only; rw [if_neg hb]
    -- ldc_w
    · split at hh
      · rename_i hz
        refine ak_W1_hp hC rfl rfl rfl (fun g hg => ?_) (hk _ _ _ _ hh)
        unfold am_hp; dsimp only; rw [if_pos hz]
      · exact hh.elim
    -- ldc2_w
    · split at hh
      · rename_i hz
        refine ak_W1_hp hC rfl rfl rfl (fun g hg => ?_) (hk _ _ _ _ hh)
        unfold am_hp; dsimp only; rw [if_pos hz]
      · exact hh.elim
    -- getstatic
    · split at hh
      · rename_i hb
        refine ak_W1_hp hC rfl rfl rfl (fun g hg => ?_) (hk _ _ _ _ hh)
        unfold am_hp; dsimp only; rw [if_pos hb]
      · rename_i hb
        refine ak_W1_hp hC rfl rfl rfl (fun g hg => ?_) (hk _ _ _ _ hh)
        unfold am_hp; dsimp only; rw [if_neg hb]
    -- idiv
    · split at hh
      · refine ak_W1_nrm hC rfl (fun g hg => ?_) (hk _ _ _ _ hh.2)
        unfold am_norm am_loc am_alu; dsimp only; rw [if_neg hh.1]
      · exact hh.elim
    · split at hh
      · refine ak_W1_nrm hC rfl (fun g hg => ?_) (hk _ _ _ _ hh.2)
        unfold am_norm am_loc am_alu; dsimp only; rw [if_neg hh.1]
      · exact hh.elim
    · split at hh
      · refine ak_W1_nrm hC rfl (fun g hg => ?_) (hk _ _ _ _ hh.2)
        unfold am_norm am_loc am_alu; dsimp only; rw [if_neg hh.1]
      · exact hh.elim
    · split at hh
      · refine ak_W1_nrm hC rfl (fun g hg => ?_) (hk _ _ _ _ hh.2)
        unfold am_norm am_loc am_alu; dsimp only; rw [if_neg hh.1]
      · exact hh.elim
    -- the rest
    · refine am3_nrm_ok hk hC ?_ hh
      unfold am_nrm
      cases ins <;> first | rfl | (exfalso; rename_i n1 n2 n3 n4 n5 n6 n7 n8 n9 n10 n11 n12 n13 n14 n15 n16 n17 n18 n19 n20 n21 n22 n23 n24 n25 n26 n27 n28 n29; first | exact n1 _ rfl | exact n2 _ _ rfl | exact n3 _ _ rfl | exact n4 _ _ _ _ rfl | exact n5 _ _ rfl | exact n6 rfl | exact n7 rfl | exact n8 rfl | exact n9 _ rfl | exact n10 _ rfl | exact n11 _ rfl | exact n12 _ rfl)
end AM3O
