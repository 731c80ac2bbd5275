def am_rn (ρ : am_A) (r q : Nat) (cA : ClassId) : am_A := (fun x => if x = r then q else ρ.1 x, ρ.2.1, fun x => if x = r then cA else ρ.2.2 x)
theorem am_rn_ext (ρ : am_A) (n q : Nat) (cA : ClassId) : am_ext n ρ (am_rn ρ (n + 1) q cA) :=
  ⟨fun r hr => by show (if r = n + 1 then q else ρ.1 r) = ρ.1 r; rw [if_neg (by omega)], rfl, fun r hr => by show (if r = n + 1 then cA else ρ.2.2 r) = ρ.2.2 r; rw [if_neg (by omega)]⟩
theorem am_clr_ne {α : Type} {f : Nat → Nat → α} {p : Nat} {d : α} {q : Nat} (h : q ≠ p) : am_clr f p d q = f q := by
  funext j; unfold am_clr; rw [if_neg h]
theorem am_clr_at {α : Type} {f : Nat → Nat → α} {p : Nat} {d : α} : am_clr f p d p = fun _ => d := by
  funext j; unfold am_clr; rw [if_pos rfl]
theorem am_okh_dfl {h : am_H} (hok : am_okh h) {k len sl : Nat} (hk : k < 12 ∨ (101 ≤ k ∧ k ≤ 104)) (hl : len < 2147483648) (hn : h.1.length + 1 < am_SP) : am_okh (am_dfl (h.1.length + 1) h k len sl) := by
  obtain ⟨h1, h2, h3, h4, h5⟩ := hok
  refine ⟨fun q j => ?_, fun q j => ?_, fun q j => ?_, fun i k2 l2 hi => ?_, ?_⟩
  · show -2147483648 ≤ am_clr h.2.1 (h.1.length + 1) 0 q j ∧ am_clr h.2.1 (h.1.length + 1) 0 q j < 2147483648
    unfold am_clr; split
    · omega
    · exact h1 q j
  · show -9223372036854775808 ≤ am_clr h.2.2.1 (h.1.length + 1) 0 q j ∧ am_clr h.2.2.1 (h.1.length + 1) 0 q j < 9223372036854775808
    unfold am_clr; split
    · omega
    · exact h2 q j
  · show am_clr h.2.2.2.1 (h.1.length + 1) 0 q j ≤ (h.1 ++ [(k, len)]).length ∨ am_SP ≤ am_clr h.2.2.2.1 (h.1.length + 1) 0 q j
    rw [List.length_append]
    unfold am_clr; split
    · exact Or.inl (Nat.zero_le _)
    · rcases h3 q j with e | e
      · exact Or.inl (by simp; omega)
      · exact Or.inr e
  · have hi2 : (h.1 ++ [(k, len)])[i]? = some (k2, l2) := hi
    by_cases hl2 : i < h.1.length
    · rw [List.getElem?_append_left hl2] at hi2
      exact h4 i k2 l2 hi2
    · rw [List.getElem?_append_right (by omega)] at hi2
      have hz : i - h.1.length < 1 := (List.getElem?_eq_some_iff.mp hi2).1
      rw [show i - h.1.length = 0 by omega] at hi2
      cases hi2
      exact ⟨hk, hl⟩
  · show (h.1 ++ [(k, len)]).length < am_SP
    rw [List.length_append]
    exact hn
theorem am_wl_push {ρ : am_A} {h : am_H} (hok : am_okh h) {k len sl q : Nat} {cA : ClassId} : am_wl (am_rn ρ (h.1.length + 1) q cA) (am_dfl (h.1.length + 1) h k len sl) = am_wl ρ h ++ [(q, am_ce (am_rn ρ (h.1.length + 1) q cA) (am_dfl (h.1.length + 1) h k len sl) (h.1.length + 1) k len)] := by
  have hlen : (am_dfl (h.1.length + 1) h k len sl).1 = h.1 ++ [(k, len)] := rfl
  apply List.ext_getElem?
  intro j
  by_cases hj : j < h.1.length
  · rw [List.getElem?_append_left (by rw [am_wl_len]; exact hj)]
    obtain ⟨k2, l2, hx⟩ : ∃ k2 l2, h.1[j]? = some (k2, l2) := ⟨(h.1[j]).1, (h.1[j]).2, List.getElem?_eq_getElem hj⟩
    rw [am_wl_at hx, am_wl_at (k := k2) (len := l2) (by rw [hlen, List.getElem?_append_left hj]; exact hx)]
    have e : j + 1 ≠ h.1.length + 1 := by omega
    have e2 : (am_rn ρ (h.1.length + 1) q cA).1 (j + 1) = ρ.1 (j + 1) := if_neg e
    have e3 : (am_rn ρ (h.1.length + 1) q cA).2.2 (j + 1) = ρ.2.2 (j + 1) := if_neg e
    rw [e2]
    refine congrArg (fun f => some (ρ.1 (j + 1), f)) ?_
    have hfv : ∀ ty i, am_fv ty (j + 1) i (am_dfl (h.1.length + 1) h k len sl) = am_fv ty (j + 1) i h := by
      intro ty i
      unfold am_fv am_dfl
      dsimp only
      rw [am_clr_ne e, am_clr_ne e, am_clr_ne e]
    unfold am_ce
    rw [e3]
    split
    · refine congrArg (fun f => (Sum.inr (k2, f) : va_E)) ?_
      refine List.map_congr_left fun i _ => ?_
      rw [hfv]
      exact am_ext_rep (am_rn_ext ρ h.1.length q cA) hok.2.2.2.2 (am_fv_ok hok _ _ _)
    · have e4 : (am_dfl (h.1.length + 1) h k len sl).2.2.1 (j + 1) = h.2.2.1 (j + 1) := am_clr_ne e
      have e5 : (am_dfl (h.1.length + 1) h k len sl).2.1 (j + 1) = h.2.1 (j + 1) := am_clr_ne e
      rw [e4, e5]
  · rw [List.getElem?_append_right (by rw [am_wl_len]; omega), am_wl_len]
    by_cases hj2 : j = h.1.length
    · subst hj2
      rw [am_wl_at (k := k) (len := len) (by rw [hlen, List.getElem?_append_right (Nat.le_refl _), Nat.sub_self]; rfl), Nat.sub_self]
      have e2 : (am_rn ρ (h.1.length + 1) q cA).1 (h.1.length + 1) = q := if_pos rfl
      rw [e2]
      rfl
    · rw [List.getElem?_eq_none_iff.mpr (by rw [am_wl_len, hlen, List.length_append]; simp; omega), List.getElem?_eq_none_iff.mpr (by simp; omega)]
theorem am_rof_ext {ro : Nat → Option (Nat × Nat)} {A : Nat → Prop} {n : Nat} {ρ ρ' : am_A} {h : am_H} {s : State} {H : Heap} (he : am_ext n ρ ρ') (hok : am_okh h) (hn : h.1.length = n) (hr : am_rof ro A ρ h s H) : am_rof ro A ρ' h s H := by
  intro q k len hq
  obtain ⟨h0, h1⟩ := hr q k len hq
  refine ⟨h0, ?_⟩
  rcases h1 with ⟨e, a, h2, hO, h3⟩ | ⟨e, t, h2, h3⟩
  · refine Or.inl ⟨e, a, by rw [he.2.1]; exact h2, hO, fun b hb => ?_⟩
    rw [am_ext_rep he (by rw [← hn]; exact hok.2.2.2.2) (by rw [← hn]; exact am_fv_ok hok _ _ _)]
    exact h3 b hb
  · exact Or.inr ⟨e, t, by rw [he.2.1]; exact h2, h3⟩
theorem am_CR_push {ro : Nat → Option (Nat × Nat)} {D : va_G} {A : Nat → Prop} {s : State} {ρ : am_A} {h : am_H} {H H1 : Heap} {locs : List Loc} {k len sl q : Nat} {cA : ClassId} (hC : am_CR ro D A s ρ h H locs) (hk : k < 12 ∨ (101 ≤ k ∧ k ≤ 104)) (hl : len < 2147483648) (hn : h.1.length + 1 < am_SP)
    (hak : 101 ≤ k → ArrOfT s cA (am_aty k) ∧ va_RA s cA (am_aty k)) {e : va_E} (he : e = am_ce (am_rn ρ (h.1.length + 1) q cA) (am_dfl (h.1.length + 1) h k len sl) (h.1.length + 1) k len)
    (hP : va_P D am_cl (am_wl ρ h ++ [(q, e)]) H1) (hD : va_D A (am_wl ρ h ++ [(q, e)])) (hS : va_S A s.heap H1 locs) : am_CR ro D A s (am_rn ρ (h.1.length + 1) q cA) (am_dfl (h.1.length + 1) h k len sl) H1 locs := by
  obtain ⟨-, -, -, c4, c5, c6⟩ := hC
  rw [he, ← am_wl_push c5] at hP hD
  refine ⟨hP, hD, hS, fun i k2 l2 hi hk2 => ?_, am_okh_dfl c5 hk hl hn, ?_⟩
  · have hi2 : (h.1 ++ [(k, len)])[i]? = some (k2, l2) := hi
    by_cases hl2 : i < h.1.length
    · rw [List.getElem?_append_left hl2] at hi2
      have e3 : (am_rn ρ (h.1.length + 1) q cA).2.2 (i + 1) = ρ.2.2 (i + 1) := if_neg (by omega)
      rw [e3]
      exact c4 i k2 l2 hi2 hk2
    · rw [List.getElem?_append_right (by omega)] at hi2
      have hz : i - h.1.length < 1 := (List.getElem?_eq_some_iff.mp hi2).1
      have hz2 : i = h.1.length := by omega
      subst hz2
      rw [Nat.sub_self] at hi2
      cases hi2
      have e3 : (am_rn ρ (h.1.length + 1) q cA).2.2 (h.1.length + 1) = cA := if_pos rfl
      rw [e3]
      exact hak hk2
  · refine am_rof_same (h := h) (am_rof_ext (am_rn_ext ρ h.1.length q cA) c5 rfl c6) (fun r hr => ?_) (fun r hr => ?_)
    · exact am_clr_ne (by omega)
    · exact am_clr_ne (by omega)
section AMN
variable {p : Program} {l : Launch} {e : Env} {R : Room} {s : State} {m : MethodId} {args : Array Value} {below : List Frame} {meth : Method} {c : Code} {H : Heap} {locs : List Loc} {cells slots : Nat} {Q : State → Prop}
variable {cc : ByteArray} {pc : Nat} {jls : Array Slot} {ρ : am_A} {ro : Nat → Option (Nat × Nat)} {D : va_G} {A : Nat → Prop} {h : am_H} {own : String} {rest : List Value}
theorem am_fl_dfl {ρ : am_A} {h : am_H} {r k len sl : Nat} {b : Nat} (hk : k < 12) (hb : b < am_nf k) : defaultValue (am_tyf k b) = vp_V (am_fl ρ (am_dfl r h k len sl) r k) b := by
  unfold vp_V
  rw [List.getD_eq_getElem?_getD, am_fl_get hb]
  show _ = am_rep ρ (am_fv (am_fty k b) r b (am_dfl r h k len sl))
  rw [am_fty_lt hk]
  have eI : (am_dfl r h k len sl).2.1 r b = 0 := by show am_clr _ _ _ _ _ = _; rw [am_clr_at]
  have eJ : (am_dfl r h k len sl).2.2.1 r b = 0 := by show am_clr _ _ _ _ _ = _; rw [am_clr_at]
  have eR : (am_dfl r h k len sl).2.2.2.1 r b = 0 := by show am_clr _ _ _ _ _ = _; rw [am_clr_at]
  rcases am_cl_tc k hk b hb with e | e | e | ⟨t, e⟩ | ⟨t, e⟩
  all_goals rw [e]
  all_goals dsimp only [am_tc, am_fv]
  · rw [eI]; rfl
  · rw [eJ]; rfl
  · rw [eI]; rfl
  · rw [eR]; rfl
  · rw [eR]; rfl
theorem am_new (hexec : p.tables.exec = Jvm.exec) (hb : c.code = cc) (hown : s.vm.findClass own = some m.cls) (hts : ∀ w ∈ lw_tblG, w.before args s = true) (hK : va_K D am_cl [] s) (hA : ∀ q, s.heap.size ≤ q → A q) (hC : am_CR ro D A s ρ h H locs) {a idx : Nat} (ha : a < 12) (hn : h.1.length + 1 < am_SP)
    (hw : Jvm.Cond.classLink own idx (am_C a) ∈ lw_tblG ∧ Jvm.Cond.instantiable (am_C a) (am_nf a) ∈ lw_tblG ∧ Jvm.Cond.initialized (am_C a) ∈ lw_tblG) (hd : decode cc pc = .ok (.new idx, 3)) (hc : cells + 1 ≤ R.cells) (hs : slots + am_nf a ≤ R.slots)
    (k : ∀ (ρ' : am_A) (H' : Heap), am_ext h.1.length ρ ρ' → am_CR ro D A s ρ' (am_dfl (h.1.length + 1) h a 0 (am_nf a)) H' locs → W p l e R s m args below meth c H' locs (cells + 1) (slots + am_nf a) Q (F0 m (pc + 3) jls (am_rep ρ' (.inr (.inr (h.1.length + 1))) :: rest))) :
    W p l e R s m args below meth c H locs cells slots Q (F0 m pc jls rest) := by
  refine va_new (D := D) (cl := am_cl) (tys := []) (ci := a) (fs := am_fl ρ (am_dfl (h.1.length + 1) h a 0 (am_nf a)) (h.1.length + 1) a) hexec hb hts (am_cl_in a ha) (am_tyf a) (am_cl_ty a ha) hown (hts _ hw.1) (hts _ hw.2.1) (hts _ hw.2.2) hK hC.1 hC.2.1 hC.2.2.1 hA (am_cl_at a ha) (fun j hj => am_fl_dfl ha hj) hc hs hd (fun q H1 q1 q2 q3 => ?_)
  have hk := k (am_rn ρ (h.1.length + 1) q 0) H1 (am_rn_ext ρ h.1.length q 0) (am_CR_push hC (Or.inl ha) (by omega) hn (fun z => by omega) ?_ q1 q2 q3)
  · rw [am_rep_lt hn] at hk
    have e2 : (am_rn ρ (h.1.length + 1) q 0).1 (h.1.length + 1) = q := if_pos rfl
    rw [e2] at hk
    exact hk
  · rw [am_ce_obj (by omega)]
    refine congrArg (fun f => (Sum.inr (a, f) : va_E)) ?_
    refine List.map_congr_left fun i hi => ?_
    have hi2 := List.mem_range.mp hi
    refine (am_ext_rep (n := h.1.length) (am_rn_ext ρ h.1.length q 0) hC.2.2.2.2.1.2.2.2.2 ?_).symm
    have e1 : ∀ ty, am_ok h.1.length (am_fv ty (h.1.length + 1) i (am_dfl (h.1.length + 1) h a 0 (am_nf a))) := by
      intro ty
      unfold am_fv
      split
      · show -9223372036854775808 ≤ am_clr _ _ _ _ _ ∧ am_clr _ _ _ _ _ < 9223372036854775808
        rw [am_clr_at]; exact ⟨(by decide : (-9223372036854775808 : Int) ≤ 0), (by decide : (0 : Int) < 9223372036854775808)⟩
      · show am_clr _ _ _ _ _ ≤ _ ∨ _
        rw [am_clr_at]; exact Or.inl (Nat.zero_le _)
      · show -2147483648 ≤ am_clr _ _ _ _ _ ∧ am_clr _ _ _ _ _ < 2147483648
        rw [am_clr_at]; exact ⟨(by decide : (-2147483648 : Int) ≤ 0), (by decide : (0 : Int) < 2147483648)⟩
    exact e1 _
theorem am_newa (hexec : p.tables.exec = Jvm.exec) (hb : c.code = cc) (hts : ∀ w ∈ lw_tblG, w.before args s = true) (hK : va_K D am_cl [] s) (hA : ∀ q, s.heap.size ≤ q → A q) (hC : am_CR ro D A s ρ h H locs) {t : ArrayType} {k : Nat} {j : Int} (hk : 101 ≤ k ∧ k ≤ 104) (ht : Op.newarray.typeOf t = am_aty k) (h0 : 0 ≤ j) (h1 : j ≤ 1000000) (hn : h.1.length + 1 < am_SP)
    (hw : Jvm.Cond.arrayClass (Op.newarray.typeOf t) ∈ lw_tblG) (hd : decode cc pc = .ok (.newarray t, 2)) (hc : cells + 1 ≤ R.cells) (hs : slots + j.toNat ≤ R.slots)
    (kk : ∀ (ρ' : am_A) (H' : Heap), am_ext h.1.length ρ ρ' → am_CR ro D A s ρ' (am_dfl (h.1.length + 1) h k j.toNat j.toNat) H' locs → W p l e R s m args below meth c H' locs (cells + 1) (slots + j.toNat) Q (F0 m (pc + 2) jls (am_rep ρ' (.inr (.inr (h.1.length + 1))) :: rest))) :
    W p l e R s m args below meth c H locs cells slots Q (F0 m pc jls (.int (Int32.ofInt j) :: rest)) := by
  have hcl := am_clamp h0 (by omega)
  have hneg : ¬ Int32.ofInt j < 0 := by
    intro q
    have := (am_lt32 (a := j) (b := 0) (by omega) (by omega) (by omega) (by omega)).mp q
    omega
  refine va_newa (D := D) (cl := am_cl) (tys := []) (atype := t) (ty := am_aty k) (N' := j.toNat) (a0 := (j.toNat, if k = 101 then .inr (.inl (fun _ => 0)) else .inl (fun _ => 0))) hexec hb (hts _ hw) ht hK hC.1 hC.2.1 hC.2.2.1 hA (fun cA => ?_) hneg hcl ?_ hc hs hd (fun q cA H1 q0 q1 q2 q3 => ?_)
  · by_cases e : k = 101
    · subst e
      rfl
    · rw [if_neg e]
      show arrV cA j.toNat (fun _ => .int 0) = _
      unfold am_aty
      rw [if_neg e]
      split
      · rfl
      · split <;> rfl
  · have hcb : componentBytes (am_aty k) ≤ 8 := by
      unfold am_aty
      split
      · decide
      · split
        · decide
        · split <;> decide
    calc j.toNat * componentBytes (am_aty k) ≤ 1000000 * 8 := Nat.mul_le_mul (by omega) hcb
      _ ≤ 536870912 := by omega
  · have hak : ArrOfT s cA (am_aty k) ∧ va_RA s cA (am_aty k) := q0.2 0 (cA, am_aty k) rfl
    have hk2 := kk (am_rn ρ (h.1.length + 1) q cA) H1 (am_rn_ext ρ h.1.length q cA) (am_CR_push hC (Or.inr hk) (by omega) hn (fun z => hak) ?_ q1 q2 q3)
    · rw [am_rep_lt hn] at hk2
      have e2 : (am_rn ρ (h.1.length + 1) q cA).1 (h.1.length + 1) = q := if_pos rfl
      rw [e2] at hk2
      exact hk2
    · have e3 : (am_rn ρ (h.1.length + 1) q cA).2.2 (h.1.length + 1) = cA := if_pos rfl
      by_cases e : k = 101
      · subst e
        rw [am_ce_long, e3, if_pos rfl]
        refine congrArg (fun f => (Sum.inl (cA, j.toNat, Sum.inr (Sum.inl f)) : va_E)) ?_
        funext i
        show (0 : Int64) = Int64.ofInt (am_clr _ _ _ _ _)
        rw [am_clr_at]; rfl
      · rw [am_ce_int (by omega), e3, if_neg e]
        refine congrArg (fun f => (Sum.inl (cA, j.toNat, Sum.inl f) : va_E)) ?_
        funext i
        show (0 : Int32) = Int32.ofInt (am_clr _ _ _ _ _)
        rw [am_clr_at]; rfl
theorem am_alen (hexec : p.tables.exec = Jvm.exec) (hb : c.code = cc) (hK : va_K D am_cl [] s) (hC : am_CR ro D A s ρ h H locs) {i k len : Nat} (hi : h.1[i]? = some (k, len)) (hk : 101 ≤ k) (hd : decode cc pc = .ok (.arraylength, 1))
    (kk : W p l e R s m args below meth c H locs cells slots Q (F0 m (pc + 1) jls (.int (Int32.ofInt (len : Int)) :: rest))) : W p l e R s m args below meth c H locs cells slots Q (F0 m pc jls (.ref (ρ.1 (i + 1)) :: rest)) := by
  have hat := am_wl_at (ρ := ρ) hi
  have hak := hC.2.2.2.1 i _ len hi hk
  have hK2 : va_K D am_cl [(ρ.2.2 (i + 1), am_aty k)] s := ⟨hK.1, fun q x hx => by
    have hq : q < 1 := (List.getElem?_eq_some_iff.mp hx).1
    rw [show q = 0 by omega] at hx
    cases hx
    exact hak⟩
  unfold am_ce at hat
  rw [if_neg (by omega)] at hat
  refine va_alen hexec hb hK2 hC.1 i 0 hat rfl (v := Int32.ofInt (len : Int)) ?_ hd kk
  exact Int32.ofInt_eq_ofNat.symm
end AMN
