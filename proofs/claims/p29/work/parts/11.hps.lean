section AMHP
variable {p : Program} {l : Launch} {e : Env} {R : Room} {s : State} {m : MethodId} {args : Array Value} {below : List Frame} {meth : Method} {c : Code} {H : Heap} {locs : List Loc} {cells slots : Nat} {Q : State → Prop}
variable {cc : ByteArray} {pc : Nat} {jls : Array Slot} {ρ : am_A} {ro : Nat → Option (Nat × Nat)} {D : va_G} {A : Nat → Prop} {h : am_H} {own : String} {rest : List Value}
/-- cells and slots made -/
abbrev am_hc (h : am_H) : Nat := h.2.2.2.2.1
abbrev am_hs (h : am_H) : Nat := h.2.2.2.2.2
theorem am_kind_own {ro : Nat → Option (Nat × Nat)} {h : am_H} {p c len : Nat} (hk : am_kind ro h p = some (c, len)) (hp : p < am_SP) : ∃ i, p = i + 1 ∧ h.1[i]? = some (c, len) := by
  rcases (am_kind_lt hk).2 with ⟨-, q⟩ | ⟨q, -⟩
  · exact q
  · omega
theorem am_hp_sound (hexec : p.tables.exec = Jvm.exec) (hb : c.code = cc) (hown : s.vm.findClass own = some m.cls) (hts : ∀ w ∈ lw_tblG, w.before args s = true) (hK : va_K D am_cl [] s) (hA : ∀ q, s.heap.size ≤ q → A q) (hgs : am_gs A ρ s s.heap) {ini : Bool} (hini : ini = true → meth.name = "<init>")
    {ins : Instr} {a b : Nat} {z : Int} {st st' : List am_V} {h' : am_H} {len : Nat} (hh : am_hp ro am_fty am_nf ins a b z st h = some (st', h')) (hd : decode cc pc = .ok (ins, len)) (hlen : am_len ins = len) (hok : am_oks h.1.length st) (hhk : am_hok own ini ins a b z) (hC : am_CR ro D A s ρ h H locs)
    (hr1 : cells + (am_hc h' - am_hc h) ≤ R.cells) (hr2 : slots + (am_hs h' - am_hs h) ≤ R.slots) :
    am_oks h'.1.length st' ∧ h.1.length ≤ h'.1.length ∧ am_hc h ≤ am_hc h' ∧ am_hs h ≤ am_hs h' ∧
    ((∀ (ρ' : am_A) (H' : Heap) (locs' : List Loc), am_ext h.1.length ρ ρ' → am_CR ro D A s ρ' h' H' locs' → W p l e R s m args below meth c H' locs' (cells + (am_hc h' - am_hc h)) (slots + (am_hs h' - am_hs h)) Q (F0 m (pc + len) jls (st'.map (am_rep ρ')))) →
      W p l e R s m args below meth c H locs cells slots Q (F0 m pc jls (st.map (am_rep ρ)))) := by
  subst hlen
  have hokh := hC.2.2.2.2.1
  have same : ∀ {h2 : am_H}, am_hc h2 = am_hc h → am_hs h2 = am_hs h → cells + (am_hc h2 - am_hc h) = cells ∧ slots + (am_hs h2 - am_hs h) = slots := by
    intro h2 e1 e2; rw [e1, e2]; omega
  have k0 : ∀ (stq : List am_V) (n : Nat), (∀ (ρ' : am_A) (H' : Heap) (locs' : List Loc), am_ext h.1.length ρ ρ' → am_CR ro D A s ρ' h H' locs' → W p l e R s m args below meth c H' locs' (cells + (am_hc h - am_hc h)) (slots + (am_hs h - am_hs h)) Q (F0 m n jls (stq.map (am_rep ρ')))) → W p l e R s m args below meth c H locs cells slots Q (F0 m n jls (stq.map (am_rep ρ))) := by
    intro stq n k
    have k2 := k ρ H locs (am_ext_rf _ _) hC
    rw [(same (h2 := h) rfl rfl).1, (same (h2 := h) rfl rfl).2] at k2
    exact k2
  unfold am_hp at hh
  split at hh
  · -- getfield
    rename_i idx
    split at hh
    · rename_i q r
      split at hh
      · rename_i k2 l2 hkind
        split at hh
        · rename_i hka
          cases hh
          subst hka
          obtain ⟨hq, hok⟩ := am_oks_cons.mp hok
          refine ⟨am_oks_cons.mpr ⟨am_fv_ok hokh _ _ _, hok⟩, Nat.le_refl _, Nat.le_refl _, Nat.le_refl _, fun k => ?_⟩
          have k2 := k0 _ _ k
          rcases (am_kind_lt hkind).2 with ⟨hlt, i, rfl, hi⟩ | ⟨hge, q2, rfl, hro⟩
          · rw [List.map_cons, am_rep_lt hlt]
            rcases hhk with ⟨ha, hbn, hw⟩ | ⟨ha, -, -⟩
            · exact am_getf hexec hb hown hts hK hC hi ha hbn hw hd k2
            · rcases (hokh.2.2.2.1 i _ _ hi).1 with z1 | z1 <;> omega
          · obtain ⟨-, hf⟩ := hC.2.2.2.2.2 q2 _ _ hro
            rcases hf with ⟨e50, ad, had, -, hf⟩ | ⟨e50, -⟩
            · subst e50
              rcases hhk with ⟨ha, -, -⟩ | ⟨-, hb2, hw⟩
              · omega
              · rw [List.map_cons, am_rep_sp had]
                exact vk_getf hexec hb (hf b hb2) hC.2.2.1 hown (hts _ hw) (fun _ x => x) hd k2
            · rcases hhk with ⟨ha, -, -⟩ | ⟨ha, -, -⟩ <;> omega
        · cases hh
      · cases hh
    · cases hh
  · -- putfield
    rename_i idx
    split at hh
    · rename_i v q r
      split at hh
      · rename_i k2 l2 hkind
        split at hh
        · rename_i hka
          obtain ⟨hka, hlt⟩ := hka
          subst hka
          obtain ⟨hv, hok1⟩ := am_oks_cons.mp hok
          obtain ⟨hq, hok2⟩ := am_oks_cons.mp hok1
          obtain ⟨i, rfl, hi⟩ := am_kind_own hkind hlt
          obtain ⟨ha, hbn, hw⟩ := hhk
          split at hh
          · rename_i x
            split at hh
            · rename_i hty
              cases hh
              refine ⟨hok2, Nat.le_refl _, Nat.le_refl _, Nat.le_refl _, fun k => ?_⟩
              rw [List.map_cons, List.map_cons, am_rep_lt hlt]
              refine am_putf (v := .inl x) (h' := (h.1, am_up h.2.1 (i + 1) b x, h.2.2)) hexec hb hown hts hK hC hini hi ha hbn hw hd (am_put_fit ha hbn hty) rfl (fun q hq => am_up_ne hq) (fun _ _ => rfl) (fun _ _ => rfl) (am_okh_I hokh hv) ?_ (fun j hj => ?_) (fun H' locs' hC' => ?_)
              · have e9 : ∀ ty, ty = 0 ∨ ty = 3 → am_fv ty (i + 1) b ((h.1, am_up h.2.1 (i + 1) b x, h.2.2) : am_H) = .inl x := by
                  rintro ty (rfl | rfl)
                  · show Sum.inl (am_up h.2.1 (i + 1) b x (i + 1) b) = _
                    rw [am_up_at]; simp
                  · show Sum.inl (am_up h.2.1 (i + 1) b x (i + 1) b) = _
                    rw [am_up_at]; simp
                exact e9 _ (hty.imp id And.left)
              · unfold am_fv
                dsimp only
                rw [am_up_at]
                simp [hj]
              · have k2 := k ρ H' locs' (am_ext_rf _ _) hC'
                rw [(same (h2 := (h.1, am_up h.2.1 (i + 1) b x, h.2.2)) rfl rfl).1, (same (h2 := (h.1, am_up h.2.1 (i + 1) b x, h.2.2)) rfl rfl).2] at k2
                exact k2
            · cases hh
          · rename_i x
            split at hh
            · rename_i hty
              cases hh
              refine ⟨hok2, Nat.le_refl _, Nat.le_refl _, Nat.le_refl _, fun k => ?_⟩
              rw [List.map_cons, List.map_cons, am_rep_lt hlt]
              refine am_putf (v := .inr (.inl x)) (h' := (h.1, h.2.1, am_up h.2.2.1 (i + 1) b x, h.2.2.2)) hexec hb hown hts hK hC hini hi ha hbn hw hd (am_put_fit ha hbn hty) rfl (fun _ _ => rfl) (fun q hq => am_up_ne hq) (fun _ _ => rfl) (am_okh_J hokh hv) ?_ (fun j hj => ?_) (fun H' locs' hC' => ?_)
              · rw [hty]
                show Sum.inr (Sum.inl (am_up h.2.2.1 (i + 1) b x (i + 1) b)) = _
                rw [am_up_at]; simp
              · unfold am_fv
                dsimp only
                rw [am_up_at]
                simp [hj]
              · have k2 := k ρ H' locs' (am_ext_rf _ _) hC'
                rw [(same (h2 := (h.1, h.2.1, am_up h.2.2.1 (i + 1) b x, h.2.2.2)) rfl rfl).1, (same (h2 := (h.1, h.2.1, am_up h.2.2.1 (i + 1) b x, h.2.2.2)) rfl rfl).2] at k2
                exact k2
            · cases hh
          · rename_i x
            split at hh
            · rename_i hty
              cases hh
              refine ⟨hok2, Nat.le_refl _, Nat.le_refl _, Nat.le_refl _, fun k => ?_⟩
              rw [List.map_cons, List.map_cons, am_rep_lt hlt]
              refine am_putf (v := .inr (.inr x)) (h' := (h.1, h.2.1, h.2.2.1, am_up h.2.2.2.1 (i + 1) b x, h.2.2.2.2)) hexec hb hown hts hK hC hini hi ha hbn hw hd (am_put_fit ha hbn hty.1) rfl (fun _ _ => rfl) (fun _ _ => rfl) (fun q hq => am_up_ne hq) (am_okh_R hokh hv) ?_ (fun j hj => ?_) (fun H' locs' hC' => ?_)
              · rw [hty.1]
                show Sum.inr (Sum.inr (am_up h.2.2.2.1 (i + 1) b x (i + 1) b)) = _
                rw [am_up_at]; simp
              · unfold am_fv
                dsimp only
                rw [am_up_at]
                simp [hj]
              · have k2 := k ρ H' locs' (am_ext_rf _ _) hC'
                rw [(same (h2 := (h.1, h.2.1, h.2.2.1, am_up h.2.2.2.1 (i + 1) b x, h.2.2.2.2)) rfl rfl).1, (same (h2 := (h.1, h.2.1, h.2.2.1, am_up h.2.2.2.1 (i + 1) b x, h.2.2.2.2)) rfl rfl).2] at k2
                exact k2
            · cases hh
        · cases hh
      · cases hh
    · cases hh
  · -- iaload
    split at hh
    · rename_i j q r
      split at hh
      · rename_i k2 l2 hkind
        split at hh
        · rename_i hg
          obtain ⟨hg1, hg2, hg3⟩ := hg
          cases hh
          obtain ⟨hj, hok⟩ := am_oks_cons.mp hok
          obtain ⟨hq, hok⟩ := am_oks_cons.mp hok
          refine ⟨am_oks_cons.mpr ⟨hokh.1 _ _, hok⟩, Nat.le_refl _, Nat.le_refl _, Nat.le_refl _, fun k => ?_⟩
          have k2 := k0 _ _ k
          rcases (am_kind_lt hkind).2 with ⟨hlt, i, rfl, hi⟩ | ⟨hge, q2, rfl, hro⟩
          · rw [List.map_cons, List.map_cons, am_rep_lt hlt]
            exact am_iald hexec hb hK hC hi hg1 hg2 hg3 hd k2
          · obtain ⟨hl2, hf⟩ := hC.2.2.2.2.2 q2 _ _ hro
            rcases hf with ⟨e50, -⟩ | ⟨-, ad, had, hT⟩
            · omega
            · subst hg1
              rw [List.map_cons, List.map_cons, am_rep_sp had]
              obtain ⟨e1, e2⟩ := am_vpin hg2 hg3 hl2
              refine va_ti hexec hb hT hC.2.2.1 e1 rfl hd ?_
              rw [e2]
              exact k2
        · cases hh
      · cases hh
    · cases hh
  · -- laload
    split at hh
    · rename_i j q r
      split at hh
      · rename_i k2 l2 hkind
        split at hh
        · rename_i hg
          obtain ⟨hg1, hg2, hg3⟩ := hg
          cases hh
          obtain ⟨hj, hok⟩ := am_oks_cons.mp hok
          obtain ⟨hq, hok⟩ := am_oks_cons.mp hok
          refine ⟨am_oks_cons.mpr ⟨hokh.2.1 _ _, hok⟩, Nat.le_refl _, Nat.le_refl _, Nat.le_refl _, fun k => ?_⟩
          have k2 := k0 _ _ k
          rcases (am_kind_lt hkind).2 with ⟨hlt, i, rfl, hi⟩ | ⟨hge, q2, rfl, hro⟩
          · rw [List.map_cons, List.map_cons, am_rep_lt hlt]
            exact am_lald hexec hb hK hC hi hg1 hg2 hg3 hd k2
          · obtain ⟨hl2, hf⟩ := hC.2.2.2.2.2 q2 _ _ hro
            rcases hf with ⟨e50, -⟩ | ⟨e50, -⟩ <;> omega
        · cases hh
      · cases hh
    · cases hh
  · -- baload
    split at hh
    · rename_i j q r
      split at hh
      · rename_i k2 l2 hkind
        split at hh
        · rename_i hg
          obtain ⟨hg1, hg2, hg3⟩ := hg
          cases hh
          obtain ⟨hj, hok⟩ := am_oks_cons.mp hok
          obtain ⟨hq, hok⟩ := am_oks_cons.mp hok
          refine ⟨am_oks_cons.mpr ⟨hokh.1 _ _, hok⟩, Nat.le_refl _, Nat.le_refl _, Nat.le_refl _, fun k => ?_⟩
          have k9 := k0 _ _ k
          rcases (am_kind_lt hkind).2 with ⟨hlt, i, rfl, hi⟩ | ⟨hge, q2, rfl, hro⟩
          · rw [List.map_cons, List.map_cons, am_rep_lt hlt]
            rcases hg1 with hg1 | hg1
            · exact am_bald hexec hb hK hC hi hg1 hg2 hg3 hd k9
            · exact am_zald hexec hb hK hC hi hg1 hg2 hg3 hd k9
          · obtain ⟨hl2, hf⟩ := hC.2.2.2.2.2 q2 _ _ hro
            rcases hf with ⟨e50, -⟩ | ⟨e50, ad, had, hT⟩
            · omega
            · have hg4 : k2 = 103 := by omega
              subst hg4
              rw [List.map_cons, List.map_cons, am_rep_sp had]
              obtain ⟨e1, e2⟩ := am_vpin hg2 hg3 hl2
              refine va_tb hexec hb hT hC.2.2.1 e1 rfl hd ?_
              rw [e2]
              exact k9
        · cases hh
      · cases hh
    · cases hh
  · -- iastore
    split at hh
    · rename_i x j q r
      split at hh
      · rename_i k2 l2 hkind
        split at hh
        · rename_i hg
          obtain ⟨hg1, hg2, hg3⟩ := hg
          cases hh
          obtain ⟨hx, hok⟩ := am_oks_cons.mp hok
          obtain ⟨hj, hok⟩ := am_oks_cons.mp hok
          obtain ⟨hq, hok⟩ := am_oks_cons.mp hok
          refine ⟨hok, Nat.le_refl _, Nat.le_refl _, Nat.le_refl _, fun k => ?_⟩
          obtain ⟨i, rfl, hi⟩ := am_kind_own hkind hg1.2
          rw [List.map_cons, List.map_cons, List.map_cons, am_rep_lt hg1.2]
          refine am_iast hexec hb hK hC hi hg1.1 hg2 hg3 hx hd (fun H' locs' hC' => ?_)
          have k2 := k ρ H' locs' (am_ext_rf _ _) hC'
          rw [(same (h2 := (h.1, am_up h.2.1 (i + 1) j.toNat x, h.2.2)) rfl rfl).1, (same (h2 := (h.1, am_up h.2.1 (i + 1) j.toNat x, h.2.2)) rfl rfl).2] at k2
          exact k2
        · cases hh
      · cases hh
    · cases hh
  · -- lastore
    split at hh
    · rename_i x j q r
      split at hh
      · rename_i k2 l2 hkind
        split at hh
        · rename_i hg
          obtain ⟨hg1, hg2, hg3⟩ := hg
          cases hh
          obtain ⟨hx, hok⟩ := am_oks_cons.mp hok
          obtain ⟨hj, hok⟩ := am_oks_cons.mp hok
          obtain ⟨hq, hok⟩ := am_oks_cons.mp hok
          refine ⟨hok, Nat.le_refl _, Nat.le_refl _, Nat.le_refl _, fun k => ?_⟩
          obtain ⟨i, rfl, hi⟩ := am_kind_own hkind hg1.2
          rw [List.map_cons, List.map_cons, List.map_cons, am_rep_lt hg1.2]
          refine am_last hexec hb hK hC hi hg1.1 hg2 hg3 hx hd (fun H' locs' hC' => ?_)
          have k2 := k ρ H' locs' (am_ext_rf _ _) hC'
          rw [(same (h2 := (h.1, h.2.1, am_up h.2.2.1 (i + 1) j.toNat x, h.2.2.2)) rfl rfl).1, (same (h2 := (h.1, h.2.1, am_up h.2.2.1 (i + 1) j.toNat x, h.2.2.2)) rfl rfl).2] at k2
          exact k2
        · cases hh
      · cases hh
    · cases hh
  · -- bastore
    split at hh
    · rename_i x j q r
      split at hh
      · rename_i k2 l2 hkind
        split at hh
        · rename_i hg
          obtain ⟨hg1, hg2, hg3⟩ := hg
          cases hh
          obtain ⟨hx, hok⟩ := am_oks_cons.mp hok
          obtain ⟨hj, hok⟩ := am_oks_cons.mp hok
          obtain ⟨hq, hok⟩ := am_oks_cons.mp hok
          refine ⟨hok, Nat.le_refl _, Nat.le_refl _, Nat.le_refl _, fun k => ?_⟩
          rcases hg1.2 with hg4 | hg4
          · obtain ⟨i, rfl, hi⟩ := am_kind_own hkind hg1.1
            rw [List.map_cons, List.map_cons, List.map_cons, am_rep_lt hg1.1]
            refine am_bast hexec hb hK hC hi hg4.1 hg2 hg3 hg4.2 hd (fun H' locs' hC' => ?_)
            have k2 := k ρ H' locs' (am_ext_rf _ _) hC'
            rw [(same (h2 := (h.1, am_up h.2.1 (i + 1) j.toNat x, h.2.2)) rfl rfl).1, (same (h2 := (h.1, am_up h.2.1 (i + 1) j.toNat x, h.2.2)) rfl rfl).2] at k2
            exact k2
          · obtain ⟨i, rfl, hi⟩ := am_kind_own hkind hg1.1
            rw [List.map_cons, List.map_cons, List.map_cons, am_rep_lt hg1.1]
            refine am_zast hexec hb hK hC hi hg4.1 hg2 hg3 hg4.2 hd (fun H' locs' hC' => ?_)
            have k2 := k ρ H' locs' (am_ext_rf _ _) hC'
            rw [(same (h2 := (h.1, am_up h.2.1 (i + 1) j.toNat x, h.2.2)) rfl rfl).1, (same (h2 := (h.1, am_up h.2.1 (i + 1) j.toNat x, h.2.2)) rfl rfl).2] at k2
            exact k2
        · cases hh
      · cases hh
    · cases hh
  · -- arraylength
    split at hh
    · rename_i q r
      split at hh
      · rename_i k2 l2 hkind
        split at hh
        · rename_i hg
          cases hh
          obtain ⟨hq, hok2⟩ := am_oks_cons.mp hok
          rcases (am_kind_lt hkind).2 with ⟨hlt, i, rfl, hi⟩ | ⟨hge, q2, rfl, hro⟩
          · have hlen := (hokh.2.2.2.1 i _ _ hi).2
            refine ⟨am_oks_cons.mpr ⟨(show -2147483648 ≤ (l2 : Int) ∧ (l2 : Int) < 2147483648 by omega), hok2⟩, Nat.le_refl _, Nat.le_refl _, Nat.le_refl _, fun k => ?_⟩
            have k9 := k0 _ _ k
            rw [List.map_cons, am_rep_lt hlt]
            exact am_alen hexec hb hK hC hi hg hd k9
          · obtain ⟨hl2, hf⟩ := hC.2.2.2.2.2 q2 _ _ hro
            refine ⟨am_oks_cons.mpr ⟨(show -2147483648 ≤ (l2 : Int) ∧ (l2 : Int) < 2147483648 by omega), hok2⟩, Nat.le_refl _, Nat.le_refl _, Nat.le_refl _, fun k => ?_⟩
            have k9 := k0 _ _ k
            rcases hf with ⟨e50, -⟩ | ⟨e50, ad, had, hT⟩
            · omega
            · rw [List.map_cons, am_rep_sp had]
              refine va_tlen hexec hb hT hC.2.2.1 rfl hd ?_
              rw [← Int32.ofInt_eq_ofNat]
              exact k9
        · cases hh
      · cases hh
    · cases hh
  · -- new
    rename_i idx
    split at hh
    · rename_i hg
      cases hh
      obtain ⟨ha, hw⟩ := hhk
      have e1 : am_hc (am_dfl (h.1.length + 1) h a 0 (am_nf a)) - am_hc h = 1 := Nat.add_sub_cancel_left _ _
      have e2 : am_hs (am_dfl (h.1.length + 1) h a 0 (am_nf a)) - am_hs h = am_nf a := Nat.add_sub_cancel_left _ _
      have e3 : (am_dfl (h.1.length + 1) h a 0 (am_nf a)).1.length = h.1.length + 1 := by show (h.1 ++ [(a, 0)]).length = _; simp
      rw [e1] at hr1
      rw [e2] at hr2
      refine ⟨am_oks_cons.mpr ⟨Or.inl (by rw [e3]; exact Nat.le_refl _), fun v hv => am_ok_mono (by rw [e3]; omega) (hok v hv)⟩, by rw [e3]; omega, Nat.le_add_right _ _, Nat.le_add_right _ _, fun k => ?_⟩
      rw [e1, e2] at k
      refine am_new hexec hb hown hts hK hA hC ha hg.2 hw hd hr1 hr2 (fun ρ' H' x1 x2 => ?_)
      have k2 := k ρ' H' locs x1 x2
      rw [List.map_cons, am_ext_reps x1 hokh.2.2.2.2 hok] at k2
      exact k2
    · cases hh
  · -- newarray
    rename_i t
    split at hh
    · rename_i j r
      split at hh
      · rename_i hg
        obtain ⟨hj, hok⟩ := am_oks_cons.mp hok
        have key : ∀ k : Nat, 101 ≤ k ∧ k ≤ 104 → Op.newarray.typeOf t = am_aty k → st' = .inr (.inr (h.1.length + 1)) :: r → h' = am_dfl (h.1.length + 1) h k j.toNat j.toNat → am_oks h'.1.length st' ∧ h.1.length ≤ h'.1.length ∧ am_hc h ≤ am_hc h' ∧ am_hs h ≤ am_hs h' ∧
            ((∀ (ρ' : am_A) (H' : Heap) (locs' : List Loc), am_ext h.1.length ρ ρ' → am_CR ro D A s ρ' h' H' locs' → W p l e R s m args below meth c H' locs' (cells + (am_hc h' - am_hc h)) (slots + (am_hs h' - am_hs h)) Q (F0 m (pc + am_len (.newarray t)) jls (st'.map (am_rep ρ')))) →
              W p l e R s m args below meth c H locs cells slots Q (F0 m pc jls ((.inl j :: r).map (am_rep ρ)))) := by
          intro k hk ht e4 e5
          subst e4; subst e5
          have e1 : am_hc (am_dfl (h.1.length + 1) h k j.toNat j.toNat) - am_hc h = 1 := Nat.add_sub_cancel_left _ _
          have e2 : am_hs (am_dfl (h.1.length + 1) h k j.toNat j.toNat) - am_hs h = j.toNat := Nat.add_sub_cancel_left _ _
          have e3 : (am_dfl (h.1.length + 1) h k j.toNat j.toNat).1.length = h.1.length + 1 := by show (h.1 ++ [(k, j.toNat)]).length = _; simp
          rw [e1] at hr1
          rw [e2] at hr2
          refine ⟨am_oks_cons.mpr ⟨Or.inl (by rw [e3]; exact Nat.le_refl _), fun v hv => am_ok_mono (by rw [e3]; omega) (hok v hv)⟩, by rw [e3]; omega, Nat.le_add_right _ _, Nat.le_add_right _ _, fun kk => ?_⟩
          rw [e1, e2] at kk
          rw [List.map_cons]
          refine am_newa hexec hb hts hK hA hC hk ht hg.1.1 hg.1.2 hg.2 hhk hd hr1 hr2 (fun ρ' H' x1 x2 => ?_)
          have k2 := kk ρ' H' locs x1 x2
          rw [List.map_cons, am_ext_reps x1 hokh.2.2.2.2 hok] at k2
          exact k2
        split at hh
        · cases hh; exact key 101 (by omega) rfl rfl rfl
        · cases hh; exact key 102 (by omega) rfl rfl rfl
        · cases hh; exact key 103 (by omega) rfl rfl rfl
        · cases hh; exact key 104 (by omega) rfl rfl rfl
        · cases hh
      · cases hh
    · cases hh
  · -- ldc
    rename_i idx
    split at hh
    · rename_i hb0
      split at hh
      · rename_i hz
        cases hh
        refine ⟨am_oks_cons.mpr ⟨hz, hok⟩, Nat.le_refl _, Nat.le_refl _, Nat.le_refl _, fun k => ?_⟩
        rcases hhk with ⟨-, hw⟩ | ⟨hb1, -⟩
        · exact lv_ldc hexec hb hown (hts _ hw) hd (k0 _ _ k)
        · exact absurd hb0 hb1
      · cases hh
    · rename_i hb0
      cases hh
      refine ⟨am_oks_cons.mpr ⟨Or.inr (Nat.le_add_right _ _), hok⟩, Nat.le_refl _, Nat.le_refl _, Nat.le_refl _, fun k => ?_⟩
      have k2 := k0 _ _ k
      rcases hhk with ⟨hb1, -⟩ | ⟨-, tx, hm⟩
      · exact absurd hb1 hb0
      · obtain ⟨ad, had, hR⟩ := hgs.1 _ hm
        rw [List.map_cons, am_rep_sp had] at k2
        exact va_ldcS hexec hb hown hR hd k2
  · -- ldc_w
    split at hh
    · rename_i hz
      cases hh
      refine ⟨am_oks_cons.mpr ⟨hz, hok⟩, Nat.le_refl _, Nat.le_refl _, Nat.le_refl _, fun k => ?_⟩
      exact lv_ldcw hexec hb hown (hts _ hhk) hd (k0 _ _ k)
    · cases hh
  · -- ldc2_w
    split at hh
    · rename_i hz
      cases hh
      refine ⟨am_oks_cons.mpr ⟨hz, hok⟩, Nat.le_refl _, Nat.le_refl _, Nat.le_refl _, fun k => ?_⟩
      exact lv_ldc2 hexec hb hown (hts _ hhk) hd (k0 _ _ k)
    · cases hh
  · -- getstatic
    split at hh
    · rename_i hb0
      cases hh
      refine ⟨am_oks_cons.mpr ⟨⟨by decide, by decide⟩, hok⟩, Nat.le_refl _, Nat.le_refl _, Nat.le_refl _, fun k => ?_⟩
      rcases hhk with ⟨-, hw⟩ | ⟨hb1, -⟩
      · exact va_gets hexec hb hgs.2.1 hC.2.2.1 hown (hts _ hw) (fun _ x => x) hd (k0 _ _ k)
      · exact absurd hb0 hb1
    · rename_i hb0
      cases hh
      refine ⟨am_oks_cons.mpr ⟨Or.inr (Nat.le_add_right _ _), hok⟩, Nat.le_refl _, Nat.le_refl _, Nat.le_refl _, fun k => ?_⟩
      have k2 := k0 _ _ k
      rcases hhk with ⟨hb1, -⟩ | ⟨-, rfl, hw⟩
      · exact absurd hb1 hb0
      · have hZ := hgs.2.2.2.1
        have e9 : am_rep ρ (.inr (.inr (am_SP + 30))) = va_rf (ρ.2.1 30) := by
          show (if am_SP + 30 = 0 then Value.null else if am_SP + 30 < am_SP then .ref (ρ.1 (am_SP + 30)) else va_rf (ρ.2.1 (am_SP + 30 - am_SP))) = _
          rw [if_neg (by unfold am_SP; omega), if_neg (by omega), Nat.add_sub_cancel_left]
        rw [List.map_cons, e9] at k2
        exact va_gets hexec hb hZ hC.2.2.1 hown (hts _ hw) (fun _ x => x) hd k2
  · cases hh
end AMHP
