theorem am_CR_set {ro : Nat → Option (Nat × Nat)} {D : va_G} {A : Nat → Prop} {s : State} {ρ : am_A} {h h' : am_H} {H H1 : Heap} {locs locs1 : List Loc} {i k len : Nat} (hC : am_CR ro D A s ρ h H locs) (hk : h.1[i]? = some (k, len)) (h1 : h'.1 = h.1)
    (hI : ∀ q, q ≠ i + 1 → h'.2.1 q = h.2.1 q) (hJ : ∀ q, q ≠ i + 1 → h'.2.2.1 q = h.2.2.1 q) (hR : ∀ q, q ≠ i + 1 → h'.2.2.2.1 q = h.2.2.2.1 q) (hok : am_okh h') {e : va_E} (he : e = am_ce ρ h' (i + 1) k len)
    (hP : va_P D am_cl ((am_wl ρ h).set i (ρ.1 (i + 1), e)) H1) (hD : va_D A ((am_wl ρ h).set i (ρ.1 (i + 1), e))) (hS : va_S A s.heap H1 locs1) : am_CR ro D A s ρ h' H1 locs1 := by
  obtain ⟨-, -, -, c4, c5, c6⟩ := hC
  have hw := am_wl_set (ρ := ρ) hk h1 hI hJ hR
  have hil : i < h.1.length := (List.getElem?_eq_some_iff.mp hk).1
  have hsp : i + 1 < am_SP := by have := c5.2.2.2.2; omega
  rw [← he] at hw
  refine ⟨by rw [hw]; exact hP, by rw [hw]; exact hD, hS, fun j k2 l2 hj hk2 => c4 j k2 l2 (by rw [← h1]; exact hj) hk2, hok, am_rof_same c6 (fun q hq => hI q (by omega)) (fun q hq => hR q (by omega))⟩
theorem am_ce_obj {ρ : am_A} {h : am_H} {r k len : Nat} (hk : k < 100) : am_ce ρ h r k len = .inr (k, (List.range (am_nf k)).map (fun i => am_rep ρ (am_fv (am_fty k i) r i h))) := by
  unfold am_ce; rw [if_pos hk]
theorem am_ce_int {ρ : am_A} {h : am_H} {r k len : Nat} (hk : 102 ≤ k) : am_ce ρ h r k len = .inl (ρ.2.2 r, len, .inl (fun j => Int32.ofInt (h.2.1 r j))) := by
  unfold am_ce; rw [if_neg (by omega), if_neg (by omega)]
theorem am_ce_long {ρ : am_A} {h : am_H} {r len : Nat} : am_ce ρ h r 101 len = .inl (ρ.2.2 r, len, .inr (.inl (fun j => Int64.ofInt (h.2.2.1 r j)))) := by
  unfold am_ce; rw [if_neg (by omega), if_pos rfl]
theorem am_up_ne {α : Type} {f : Nat → Nat → α} {p k : Nat} {v : α} {q : Nat} (h : q ≠ p) : am_up f p k v q = f q := by
  funext j; unfold am_up; rw [if_neg h]
theorem am_up_at {α : Type} {f : Nat → Nat → α} {p k : Nat} {v : α} : am_up f p k v p = fun j => if j = k then v else f p j := by
  funext j; unfold am_up; rw [if_pos rfl]
theorem am_okh_I {h : am_H} (hok : am_okh h) {p k : Nat} {x : Int} (hx : -2147483648 ≤ x ∧ x < 2147483648) : am_okh (h.1, am_up h.2.1 p k x, h.2.2) := by
  obtain ⟨h1, h2, h3, h4, h5⟩ := hok
  refine ⟨fun q j => ?_, h2, h3, h4, h5⟩
  show -2147483648 ≤ am_up h.2.1 p k x q j ∧ am_up h.2.1 p k x q j < 2147483648
  unfold am_up
  split
  · split
    · exact hx
    · exact h1 q j
  · exact h1 q j
theorem am_okh_J {h : am_H} (hok : am_okh h) {p k : Nat} {x : Int} (hx : -9223372036854775808 ≤ x ∧ x < 9223372036854775808) : am_okh (h.1, h.2.1, am_up h.2.2.1 p k x, h.2.2.2) := by
  obtain ⟨h1, h2, h3, h4, h5⟩ := hok
  refine ⟨h1, fun q j => ?_, h3, h4, h5⟩
  show -9223372036854775808 ≤ am_up h.2.2.1 p k x q j ∧ am_up h.2.2.1 p k x q j < 9223372036854775808
  unfold am_up
  split
  · split
    · exact hx
    · exact h2 q j
  · exact h2 q j
theorem am_okh_R {h : am_H} (hok : am_okh h) {p k x : Nat} (hx : x ≤ h.1.length ∨ am_SP ≤ x) : am_okh (h.1, h.2.1, h.2.2.1, am_up h.2.2.2.1 p k x, h.2.2.2.2) := by
  obtain ⟨h1, h2, h3, h4, h5⟩ := hok
  refine ⟨h1, h2, fun q j => ?_, h4, h5⟩
  show am_up h.2.2.2.1 p k x q j ≤ h.1.length ∨ am_SP ≤ am_up h.2.2.2.1 p k x q j
  unfold am_up
  split
  · split
    · exact hx
    · exact h3 q j
  · exact h3 q j
theorem am_fv_ok {h : am_H} (hok : am_okh h) (ty p k : Nat) : am_ok h.1.length (am_fv ty p k h) := by
  unfold am_fv
  split
  · exact hok.2.1 p k
  · exact hok.2.2.1 p k
  · exact hok.1 p k
def am_fl (ρ : am_A) (h : am_H) (r k : Nat) : List Value := (List.range (am_nf k)).map (fun i => am_rep ρ (am_fv (am_fty k i) r i h))
theorem am_fl_len (ρ : am_A) (h : am_H) (r k : Nat) : (am_fl ρ h r k).length = am_nf k := by unfold am_fl; simp
theorem am_fl_get {ρ : am_A} {h : am_H} {r k b : Nat} (hb : b < am_nf k) : (am_fl ρ h r k)[b]? = some (am_rep ρ (am_fv (am_fty k b) r b h)) := by
  unfold am_fl
  rw [List.getElem?_map, List.getElem?_range hb]
  rfl
theorem am_fl_set {ρ : am_A} {h h' : am_H} {r k b : Nat} {v : am_V} (hb : b < am_nf k) (hv : am_fv (am_fty k b) r b h' = v) (ho : ∀ j, j ≠ b → am_fv (am_fty k j) r j h' = am_fv (am_fty k j) r j h) : am_fl ρ h' r k = (am_fl ρ h r k).set b (am_rep ρ v) := by
  apply List.ext_getElem?
  intro j
  by_cases hj : j = b
  · subst hj
    rw [List.getElem?_set_self (by rw [am_fl_len]; exact hb), am_fl_get hb, hv]
  · rw [List.getElem?_set_ne (fun c => hj c.symm)]
    by_cases hl : j < am_nf k
    · rw [am_fl_get hl, am_fl_get hl, ho j hj]
    · rw [List.getElem?_eq_none_iff.mpr (by rw [am_fl_len]; omega), List.getElem?_eq_none_iff.mpr (by rw [am_fl_len]; omega)]
theorem am_fty_lt {k b : Nat} (hk : k < 12) : am_fty k b = am_tc (am_tyf k b) := by
  unfold am_fty; rw [if_neg (by omega)]
/-- what a put needs of the value -/
theorem am_put_fit {ρ : am_A} {k b : Nat} {v : am_V} (hk : k < 12) (hb : b < am_nf k) (hv : match v with
    | .inl x => am_fty k b = 0 ∨ (am_fty k b = 3 ∧ (x = 0 ∨ x = 1))
    | .inr (.inl _) => am_fty k b = 1
    | .inr (.inr _) => am_fty k b = 2) : narrow (am_tyf k b) (am_rep ρ v) = am_rep ρ v ∧ fits (am_tyf k b) (am_rep ρ v) = true := by
  rw [am_fty_lt hk] at hv
  rcases am_cl_tc k hk b hb with e | e | e | ⟨t, e⟩ | ⟨t, e⟩
  all_goals rw [e] at hv ⊢
  all_goals rcases v with x | x | x
  all_goals dsimp only [am_tc] at hv
  · exact ⟨rfl, rfl⟩
  · omega
  · omega
  · omega
  · exact ⟨rfl, rfl⟩
  · omega
  · rcases hv with hv | ⟨-, hv⟩
    · omega
    · rcases hv with rfl | rfl
      · exact ⟨rfl, rfl⟩
      · exact ⟨rfl, rfl⟩
  · omega
  · omega
  · omega
  · omega
  · rcases am_rep_ref ρ x with e2 | ⟨a, e2⟩
    · rw [e2]; exact ⟨rfl, rfl⟩
    · rw [e2]; exact ⟨rfl, rfl⟩
  · omega
  · omega
  · rcases am_rep_ref ρ x with e2 | ⟨a, e2⟩
    · rw [e2]; exact ⟨rfl, rfl⟩
    · rw [e2]; exact ⟨rfl, rfl⟩
section AMH
variable {p : Program} {l : Launch} {e : Env} {R : Room} {s : State} {m : MethodId} {args : Array Value} {below : List Frame} {meth : Method} {c : Code} {H : Heap} {locs : List Loc} {cells slots : Nat} {Q : State → Prop}
variable {cc : ByteArray} {pc : Nat} {jls : Array Slot} {ρ : am_A} {ro : Nat → Option (Nat × Nat)} {D : va_G} {A : Nat → Prop} {h : am_H} {own : String} {rest : List Value}
/-- an object's field is read -/
theorem am_getf (hexec : p.tables.exec = Jvm.exec) (hb : c.code = cc) (hown : s.vm.findClass own = some m.cls) (hts : ∀ w ∈ lw_tblG, w.before args s = true) (hK : va_K D am_cl [] s) (hC : am_CR ro D A s ρ h H locs) {i a b len idx : Nat} {z : Int} (hi : h.1[i]? = some (a, len)) (ha : a < 12) (hbn : b < am_nf a)
    (hw : (z = 0 ∧ Jvm.Cond.fieldLink own idx (am_T a b).1 (am_T a b).2.1 (am_T a b).2.2.1 ∈ lw_tblG) ∨ (z = 1 ∧ ∃ host, Jvm.Cond.fieldLinkNest own idx (am_T a b).1 (am_T a b).2.1 (am_T a b).2.2.1 host ∈ lw_tblG)) (hd : decode cc pc = .ok (.getfield idx, 3))
    (k : W p l e R s m args below meth c H locs cells slots Q (F0 m (pc + 3) jls (am_rep ρ (am_fv (am_fty a b) (i + 1) b h) :: rest))) : W p l e R s m args below meth c H locs cells slots Q (F0 m pc jls (.ref (ρ.1 (i + 1)) :: rest)) := by
  have hat := am_wl_at (ρ := ρ) hi
  rw [am_ce_obj (by omega)] at hat
  rcases hw with ⟨-, hw⟩ | ⟨-, host, hw⟩
  · exact va_get (D := D) (cl := am_cl) (tys := []) hexec hb hts (am_cl_in a ha) hown hK hC.1 i hat (am_cl_at a ha) b hbn (hts _ hw) (fun _ q => q) (am_fl_get hbn) hd k
  · exact va_getN (D := D) (cl := am_cl) (tys := []) hexec hb hts (am_cl_in a ha) hown hK hC.1 i hat (am_cl_at a ha) b hbn (hts _ hw) (fun _ q => q) (am_fl_get hbn) hd k
/-- an object's field is put -/
theorem am_putf (hexec : p.tables.exec = Jvm.exec) (hb : c.code = cc) (hown : s.vm.findClass own = some m.cls) (hts : ∀ w ∈ lw_tblG, w.before args s = true) (hK : va_K D am_cl [] s) (hC : am_CR ro D A s ρ h H locs) {i a b len idx : Nat} {z : Int} {v : am_V} {h' : am_H} {ini : Bool} (hini : ini = true → meth.name = "<init>") (hi : h.1[i]? = some (a, len)) (ha : a < 12) (hbn : b < am_nf a)
    (hw : (z = 0 ∧ Jvm.Cond.fieldLink own idx (am_T a b).1 (am_T a b).2.1 (am_T a b).2.2.1 ∈ lw_tblG ∧ ((am_T a b).2.2.2 = true → ini = true ∧ (am_T a b).1 = own)) ∨ (z = 1 ∧ (am_T a b).2.2.2 = false ∧ ∃ host, Jvm.Cond.fieldLinkNest own idx (am_T a b).1 (am_T a b).2.1 (am_T a b).2.2.1 host ∈ lw_tblG)) (hd : decode cc pc = .ok (.putfield idx, 3))
    (hfit : narrow (am_tyf a b) (am_rep ρ v) = am_rep ρ v ∧ fits (am_tyf a b) (am_rep ρ v) = true) (h1 : h'.1 = h.1) (hI : ∀ q, q ≠ i + 1 → h'.2.1 q = h.2.1 q) (hJ : ∀ q, q ≠ i + 1 → h'.2.2.1 q = h.2.2.1 q) (hR : ∀ q, q ≠ i + 1 → h'.2.2.2.1 q = h.2.2.2.1 q) (hok : am_okh h')
    (hv : am_fv (am_fty a b) (i + 1) b h' = v) (ho : ∀ j, j ≠ b → am_fv (am_fty a j) (i + 1) j h' = am_fv (am_fty a j) (i + 1) j h)
    (k : ∀ (H' : Heap) (locs' : List Loc), am_CR ro D A s ρ h' H' locs' → W p l e R s m args below meth c H' locs' cells slots Q (F0 m (pc + 3) jls rest)) : W p l e R s m args below meth c H locs cells slots Q (F0 m pc jls (am_rep ρ v :: .ref (ρ.1 (i + 1)) :: rest)) := by
  have hat := am_wl_at (ρ := ρ) hi
  have hce : (Sum.inr (a, (am_fl ρ h (i + 1) a).set b (am_rep ρ v)) : va_E) = am_ce ρ h' (i + 1) a len := by
    rw [am_ce_obj (by omega), ← am_fl_set hbn hv ho]
    rfl
  rw [am_ce_obj (by omega)] at hat
  have hlen : b < (am_fl ρ h (i + 1) a).length := by rw [am_fl_len]; exact hbn
  rcases hw with ⟨-, hw, hf⟩ | ⟨-, hf, host, hw⟩
  · cases hfin : (am_T a b).2.2.2 with
    | true =>
      obtain ⟨f1, f2⟩ := hf hfin
      exact va_putF (D := D) (cl := am_cl) (tys := []) hexec hb hts (am_cl_in a ha) (am_tyf a) (am_cl_ty a ha) (am_cl_nm a ha) hown hK hC.1 hC.2.1 hC.2.2.1 i hat (am_cl_at a ha) b hbn (hts _ hw) (fun _ q => q) hfin (hini f1) f2 (am_cl_ty a ha b hbn) hfit.1 hfit.2 hlen hd
        (fun H1 locs1 q1 q2 q3 => k H1 locs1 (am_CR_set hC hi h1 hI hJ hR hok hce q1 q2 q3))
    | false =>
      exact va_put (D := D) (cl := am_cl) (tys := []) hexec hb hts (am_cl_in a ha) (am_tyf a) (am_cl_ty a ha) (am_cl_nm a ha) hown hK hC.1 hC.2.1 hC.2.2.1 i hat (am_cl_at a ha) b hbn (hts _ hw) (fun _ q => q) hfin (am_cl_ty a ha b hbn) hfit.1 hfit.2 hlen hd
        (fun H1 locs1 q1 q2 q3 => k H1 locs1 (am_CR_set hC hi h1 hI hJ hR hok hce q1 q2 q3))
  · exact va_putN (D := D) (cl := am_cl) (tys := []) hexec hb hts (am_cl_in a ha) (am_tyf a) (am_cl_ty a ha) (am_cl_nm a ha) hown hK hC.1 hC.2.1 hC.2.2.1 i hat (am_cl_at a ha) b hbn (hts _ hw) (fun _ q => q) hf (am_cl_ty a ha b hbn) hfit.1 hfit.2 hlen hd
        (fun H1 locs1 q1 q2 q3 => k H1 locs1 (am_CR_set hC hi h1 hI hJ hR hok hce q1 q2 q3))
theorem am_iald (hexec : p.tables.exec = Jvm.exec) (hb : c.code = cc) (hK : va_K D am_cl [] s) (hC : am_CR ro D A s ρ h H locs) {i k len : Nat} {j : Int} (hi : h.1[i]? = some (k, len)) (hk : k = 102) (h0 : 0 ≤ j) (h1 : j < (len : Int)) (hd : decode cc pc = .ok (.iaload, 1))
    (kk : W p l e R s m args below meth c H locs cells slots Q (F0 m (pc + 1) jls (.int (Int32.ofInt (h.2.1 (i + 1) j.toNat)) :: rest))) : W p l e R s m args below meth c H locs cells slots Q (F0 m pc jls (.int (Int32.ofInt j) :: .ref (ρ.1 (i + 1)) :: rest)) := by
  subst hk
  have hat := am_wl_at (ρ := ρ) hi
  rw [am_ce_int (by omega)] at hat
  obtain ⟨e1, e2⟩ := am_vpin h0 h1 (hC.2.2.2.2.1.2.2.2.1 i _ len hi).2
  have hak := hC.2.2.2.1 i _ len hi (by omega)
  have hK2 : va_K D am_cl [(ρ.2.2 (i + 1), .int)] s := ⟨hK.1, fun q x hx => by
    have hq : q < 1 := (List.getElem?_eq_some_iff.mp hx).1
    rw [show q = 0 by omega] at hx
    cases hx
    exact hak⟩
  refine va_iald hexec hb hK2 hC.1 i 0 hat rfl e1 hd ?_
  rw [e2]
  exact kk
theorem am_lald (hexec : p.tables.exec = Jvm.exec) (hb : c.code = cc) (hK : va_K D am_cl [] s) (hC : am_CR ro D A s ρ h H locs) {i k len : Nat} {j : Int} (hi : h.1[i]? = some (k, len)) (hk : k = 101) (h0 : 0 ≤ j) (h1 : j < (len : Int)) (hd : decode cc pc = .ok (.laload, 1))
    (kk : W p l e R s m args below meth c H locs cells slots Q (F0 m (pc + 1) jls (.long (Int64.ofInt (h.2.2.1 (i + 1) j.toNat)) :: rest))) : W p l e R s m args below meth c H locs cells slots Q (F0 m pc jls (.int (Int32.ofInt j) :: .ref (ρ.1 (i + 1)) :: rest)) := by
  subst hk
  have hat := am_wl_at (ρ := ρ) hi
  rw [am_ce_long] at hat
  obtain ⟨e1, e2⟩ := am_vpin h0 h1 (hC.2.2.2.2.1.2.2.2.1 i _ len hi).2
  have hak := hC.2.2.2.1 i _ len hi (by omega)
  have hK2 : va_K D am_cl [(ρ.2.2 (i + 1), .long)] s := ⟨hK.1, fun q x hx => by
    have hq : q < 1 := (List.getElem?_eq_some_iff.mp hx).1
    rw [show q = 0 by omega] at hx
    cases hx
    exact hak⟩
  refine va_lald hexec hb hK2 hC.1 i 0 hat rfl e1 hd ?_
  rw [e2]
  exact kk
theorem am_bald (hexec : p.tables.exec = Jvm.exec) (hb : c.code = cc) (hK : va_K D am_cl [] s) (hC : am_CR ro D A s ρ h H locs) {i k len : Nat} {j : Int} (hi : h.1[i]? = some (k, len)) (hk : k = 103) (h0 : 0 ≤ j) (h1 : j < (len : Int)) (hd : decode cc pc = .ok (.baload, 1))
    (kk : W p l e R s m args below meth c H locs cells slots Q (F0 m (pc + 1) jls (.int (Int32.ofInt (h.2.1 (i + 1) j.toNat)) :: rest))) : W p l e R s m args below meth c H locs cells slots Q (F0 m pc jls (.int (Int32.ofInt j) :: .ref (ρ.1 (i + 1)) :: rest)) := by
  subst hk
  have hat := am_wl_at (ρ := ρ) hi
  rw [am_ce_int (by omega)] at hat
  obtain ⟨e1, e2⟩ := am_vpin h0 h1 (hC.2.2.2.2.1.2.2.2.1 i _ len hi).2
  have hak := hC.2.2.2.1 i _ len hi (by omega)
  have hK2 : va_K D am_cl [(ρ.2.2 (i + 1), .byte)] s := ⟨hK.1, fun q x hx => by
    have hq : q < 1 := (List.getElem?_eq_some_iff.mp hx).1
    rw [show q = 0 by omega] at hx
    cases hx
    exact hak⟩
  refine va_bald hexec hb hK2 hC.1 i 0 hat rfl e1 hd ?_
  rw [e2]
  exact kk
theorem am_zald (hexec : p.tables.exec = Jvm.exec) (hb : c.code = cc) (hK : va_K D am_cl [] s) (hC : am_CR ro D A s ρ h H locs) {i k len : Nat} {j : Int} (hi : h.1[i]? = some (k, len)) (hk : k = 104) (h0 : 0 ≤ j) (h1 : j < (len : Int)) (hd : decode cc pc = .ok (.baload, 1))
    (kk : W p l e R s m args below meth c H locs cells slots Q (F0 m (pc + 1) jls (.int (Int32.ofInt (h.2.1 (i + 1) j.toNat)) :: rest))) : W p l e R s m args below meth c H locs cells slots Q (F0 m pc jls (.int (Int32.ofInt j) :: .ref (ρ.1 (i + 1)) :: rest)) := by
  subst hk
  have hat := am_wl_at (ρ := ρ) hi
  rw [am_ce_int (by omega)] at hat
  obtain ⟨e1, e2⟩ := am_vpin h0 h1 (hC.2.2.2.2.1.2.2.2.1 i _ len hi).2
  have hak := hC.2.2.2.1 i _ len hi (by omega)
  have hK2 : va_K D am_cl [(ρ.2.2 (i + 1), .boolean)] s := ⟨hK.1, fun q x hx => by
    have hq : q < 1 := (List.getElem?_eq_some_iff.mp hx).1
    rw [show q = 0 by omega] at hx
    cases hx
    exact hak⟩
  refine va_zald hexec hb hK2 hC.1 i 0 hat rfl e1 hd ?_
  rw [e2]
  exact kk
theorem am_iast (hexec : p.tables.exec = Jvm.exec) (hb : c.code = cc) (hK : va_K D am_cl [] s) (hC : am_CR ro D A s ρ h H locs) {i k len : Nat} {j x : Int} (hi : h.1[i]? = some (k, len)) (hk : k = 102) (h0 : 0 ≤ j) (h1 : j < (len : Int)) (hx : -2147483648 ≤ x ∧ x < 2147483648) (hd : decode cc pc = .ok (.iastore, 1))
    (kk : ∀ (H' : Heap) (locs' : List Loc), am_CR ro D A s ρ (h.1, am_up h.2.1 (i + 1) j.toNat x, h.2.2) H' locs' → W p l e R s m args below meth c H' locs' cells slots Q (F0 m (pc + 1) jls rest)) : W p l e R s m args below meth c H locs cells slots Q (F0 m pc jls (.int (Int32.ofInt x) :: .int (Int32.ofInt j) :: .ref (ρ.1 (i + 1)) :: rest)) := by
  subst hk
  have hat := am_wl_at (ρ := ρ) hi
  rw [am_ce_int (by omega)] at hat
  obtain ⟨e1, e2⟩ := am_vpin h0 h1 (hC.2.2.2.2.1.2.2.2.1 i _ len hi).2
  have hak := hC.2.2.2.1 i _ len hi (by omega)
  have hK2 : va_K D am_cl [(ρ.2.2 (i + 1), .int)] s := ⟨hK.1, fun q y hx => by
    have hq : q < 1 := (List.getElem?_eq_some_iff.mp hx).1
    rw [show q = 0 by omega] at hx
    cases hx
    exact hak⟩
  refine va_iast hexec hb hK2 hC.1 hC.2.1 hC.2.2.1 i 0 hat rfl e1 hd (fun H1 locs1 q1 q2 q3 => kk H1 locs1 ?_)
  rw [e2] at q1 q2
  refine am_CR_set hC hi rfl (fun q hq => am_up_ne hq) (fun q _ => rfl) (fun q _ => rfl) (am_okh_I hC.2.2.2.2.1 hx) ?_ q1 q2 q3
  rw [am_ce_int (by omega)]
  refine congrArg (fun f => (Sum.inl (ρ.2.2 (i + 1), len, Sum.inl f) : va_E)) ?_
  funext t
  show (upd (fun j => Int32.ofInt (h.2.1 (i + 1) j)) j.toNat (Int32.ofInt x)) t = Int32.ofInt (am_up h.2.1 (i + 1) j.toNat x (i + 1) t)
  rw [am_up_at]
  unfold upd
  dsimp only
  split
  · rfl
  · rfl
theorem am_last (hexec : p.tables.exec = Jvm.exec) (hb : c.code = cc) (hK : va_K D am_cl [] s) (hC : am_CR ro D A s ρ h H locs) {i k len : Nat} {j x : Int} (hi : h.1[i]? = some (k, len)) (hk : k = 101) (h0 : 0 ≤ j) (h1 : j < (len : Int)) (hx : -9223372036854775808 ≤ x ∧ x < 9223372036854775808) (hd : decode cc pc = .ok (.lastore, 1))
    (kk : ∀ (H' : Heap) (locs' : List Loc), am_CR ro D A s ρ (h.1, h.2.1, am_up h.2.2.1 (i + 1) j.toNat x, h.2.2.2) H' locs' → W p l e R s m args below meth c H' locs' cells slots Q (F0 m (pc + 1) jls rest)) : W p l e R s m args below meth c H locs cells slots Q (F0 m pc jls (.long (Int64.ofInt x) :: .int (Int32.ofInt j) :: .ref (ρ.1 (i + 1)) :: rest)) := by
  subst hk
  have hat := am_wl_at (ρ := ρ) hi
  rw [am_ce_long] at hat
  obtain ⟨e1, e2⟩ := am_vpin h0 h1 (hC.2.2.2.2.1.2.2.2.1 i _ len hi).2
  have hak := hC.2.2.2.1 i _ len hi (by omega)
  have hK2 : va_K D am_cl [(ρ.2.2 (i + 1), .long)] s := ⟨hK.1, fun q y hx => by
    have hq : q < 1 := (List.getElem?_eq_some_iff.mp hx).1
    rw [show q = 0 by omega] at hx
    cases hx
    exact hak⟩
  refine va_last hexec hb hK2 hC.1 hC.2.1 hC.2.2.1 i 0 hat rfl e1 hd (fun H1 locs1 q1 q2 q3 => kk H1 locs1 ?_)
  rw [e2] at q1 q2
  refine am_CR_set hC hi rfl (fun q _ => rfl) (fun q hq => am_up_ne hq) (fun q _ => rfl) (am_okh_J hC.2.2.2.2.1 hx) ?_ q1 q2 q3
  rw [am_ce_long]
  refine congrArg (fun f => (Sum.inl (ρ.2.2 (i + 1), len, Sum.inr (Sum.inl f)) : va_E)) ?_
  funext t
  show (vp_updL (fun j => Int64.ofInt (h.2.2.1 (i + 1) j)) j.toNat (Int64.ofInt x)) t = Int64.ofInt (am_up h.2.2.1 (i + 1) j.toNat x (i + 1) t)
  rw [am_up_at]
  unfold vp_updL
  dsimp only
  split
  · rfl
  · rfl
theorem am_bast (hexec : p.tables.exec = Jvm.exec) (hb : c.code = cc) (hK : va_K D am_cl [] s) (hC : am_CR ro D A s ρ h H locs) {i k len : Nat} {j x : Int} (hi : h.1[i]? = some (k, len)) (hk : k = 103) (h0 : 0 ≤ j) (h1 : j < (len : Int)) (hx : -128 ≤ x ∧ x < 128) (hd : decode cc pc = .ok (.bastore, 1))
    (kk : ∀ (H' : Heap) (locs' : List Loc), am_CR ro D A s ρ (h.1, am_up h.2.1 (i + 1) j.toNat x, h.2.2) H' locs' → W p l e R s m args below meth c H' locs' cells slots Q (F0 m (pc + 1) jls rest)) : W p l e R s m args below meth c H locs cells slots Q (F0 m pc jls (.int (Int32.ofInt x) :: .int (Int32.ofInt j) :: .ref (ρ.1 (i + 1)) :: rest)) := by
  subst hk
  have hat := am_wl_at (ρ := ρ) hi
  rw [am_ce_int (by omega)] at hat
  obtain ⟨e1, e2⟩ := am_vpin h0 h1 (hC.2.2.2.2.1.2.2.2.1 i _ len hi).2
  have hak := hC.2.2.2.1 i _ len hi (by omega)
  have hK2 : va_K D am_cl [(ρ.2.2 (i + 1), .byte)] s := ⟨hK.1, fun q y hx => by
    have hq : q < 1 := (List.getElem?_eq_some_iff.mp hx).1
    rw [show q = 0 by omega] at hx
    cases hx
    exact hak⟩
  refine va_bast hexec hb hK2 hC.1 hC.2.1 hC.2.2.1 i 0 hat rfl e1 hd (fun H1 locs1 q1 q2 q3 => kk H1 locs1 ?_)
  rw [e2] at q1 q2
  refine am_CR_set hC hi rfl (fun q hq => am_up_ne hq) (fun q _ => rfl) (fun q _ => rfl) (am_okh_I hC.2.2.2.2.1 ⟨by omega, by omega⟩) ?_ q1 q2 q3
  rw [am_ce_int (by omega)]
  refine congrArg (fun f => (Sum.inl (ρ.2.2 (i + 1), len, Sum.inl f) : va_E)) ?_
  funext t
  show (upd (fun j => Int32.ofInt (h.2.1 (i + 1) j)) j.toNat (vp_nar .byte (Int32.ofInt x))) t = Int32.ofInt (am_up h.2.1 (i + 1) j.toNat x (i + 1) t)
  rw [am_up_at]
  unfold upd
  dsimp only
  split
  · rw [vp_nar_byte, am_i2b (by omega) (by omega), am_w8_id hx.1 hx.2]
  · rfl
theorem am_zast (hexec : p.tables.exec = Jvm.exec) (hb : c.code = cc) (hK : va_K D am_cl [] s) (hC : am_CR ro D A s ρ h H locs) {i k len : Nat} {j x : Int} (hi : h.1[i]? = some (k, len)) (hk : k = 104) (h0 : 0 ≤ j) (h1 : j < (len : Int)) (hx : x = 0 ∨ x = 1) (hd : decode cc pc = .ok (.bastore, 1))
    (kk : ∀ (H' : Heap) (locs' : List Loc), am_CR ro D A s ρ (h.1, am_up h.2.1 (i + 1) j.toNat x, h.2.2) H' locs' → W p l e R s m args below meth c H' locs' cells slots Q (F0 m (pc + 1) jls rest)) : W p l e R s m args below meth c H locs cells slots Q (F0 m pc jls (.int (Int32.ofInt x) :: .int (Int32.ofInt j) :: .ref (ρ.1 (i + 1)) :: rest)) := by
  subst hk
  have hat := am_wl_at (ρ := ρ) hi
  rw [am_ce_int (by omega)] at hat
  obtain ⟨e1, e2⟩ := am_vpin h0 h1 (hC.2.2.2.2.1.2.2.2.1 i _ len hi).2
  have hak := hC.2.2.2.1 i _ len hi (by omega)
  have hK2 : va_K D am_cl [(ρ.2.2 (i + 1), .boolean)] s := ⟨hK.1, fun q y hx => by
    have hq : q < 1 := (List.getElem?_eq_some_iff.mp hx).1
    rw [show q = 0 by omega] at hx
    cases hx
    exact hak⟩
  refine va_zast hexec hb hK2 hC.1 hC.2.1 hC.2.2.1 i 0 hat rfl e1 hd (fun H1 locs1 q1 q2 q3 => kk H1 locs1 ?_)
  rw [e2] at q1 q2
  refine am_CR_set hC hi rfl (fun q hq => am_up_ne hq) (fun q _ => rfl) (fun q _ => rfl) (am_okh_I hC.2.2.2.2.1 ⟨by omega, by omega⟩) ?_ q1 q2 q3
  rw [am_ce_int (by omega)]
  refine congrArg (fun f => (Sum.inl (ρ.2.2 (i + 1), len, Sum.inl f) : va_E)) ?_
  funext t
  show (upd (fun j => Int32.ofInt (h.2.1 (i + 1) j)) j.toNat (vp_nar .boolean (Int32.ofInt x))) t = Int32.ofInt (am_up h.2.1 (i + 1) j.toNat x (i + 1) t)
  rw [am_up_at]
  unfold upd
  dsimp only
  split
  · rcases hx with rfl | rfl <;> rfl
  · rfl
end AMH
