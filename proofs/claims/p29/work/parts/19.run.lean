theorem am_prim_mono {ro : Nat → Option (Nat × Nat)} {a : Nat} {st st' : List am_V} {h h' : am_H} (hp : am_prim ro a st h = some (st', h')) (hok : am_oks h.1.length st) (hokh : am_okh h) : am_mono h h' ∧ am_oks h'.1.length st' := by
  have rfm := am_mono_rf hokh
  unfold am_prim at hp
  split at hp
  · cases hx : am_ii (fun x y => if x < y then y else x) st with
    | none => rw [hx] at hp; cases hp
    | some r0 =>
      rw [hx] at hp
      cases hp
      obtain ⟨x, y, r, rfl, rfl⟩ := am_ii_inv hx
      obtain ⟨hy, hok1⟩ := am_oks_cons.mp hok
      obtain ⟨hx1, hok2⟩ := am_oks_cons.mp hok1
      refine ⟨rfm, am_oks_cons.mpr ⟨?_, hok2⟩⟩
      show am_ok h.1.length _
      split <;> assumption
  · cases hx : am_ii (fun x y => if x < y then x else y) st with
    | none => rw [hx] at hp; cases hp
    | some r0 =>
      rw [hx] at hp
      cases hp
      obtain ⟨x, y, r, rfl, rfl⟩ := am_ii_inv hx
      obtain ⟨hy, hok1⟩ := am_oks_cons.mp hok
      obtain ⟨hx1, hok2⟩ := am_oks_cons.mp hok1
      refine ⟨rfm, am_oks_cons.mpr ⟨?_, hok2⟩⟩
      show am_ok h.1.length _
      split <;> assumption
  · cases hx : am_ll (fun x y => if y < x then y else x) st with
    | none => rw [hx] at hp; cases hp
    | some r0 =>
      rw [hx] at hp
      cases hp
      obtain ⟨x, y, r, rfl, rfl⟩ := am_ll_inv hx
      obtain ⟨hy, hok1⟩ := am_oks_cons.mp hok
      obtain ⟨hx1, hok2⟩ := am_oks_cons.mp hok1
      refine ⟨rfm, am_oks_cons.mpr ⟨?_, hok2⟩⟩
      show am_ok h.1.length _
      split <;> assumption
  · split at hp
    · split at hp
      · cases hp
      · cases hp
        exact ⟨rfm, (am_oks_cons.mp hok).2⟩
    · cases hp
  · split at hp
    · rename_i n dp q sp p0 r
      split at hp
      · split at hp
        · rename_i hg
          obtain ⟨hn, ok1⟩ := am_oks_cons.mp hok
          obtain ⟨hdp, ok2⟩ := am_oks_cons.mp ok1
          obtain ⟨hq, ok3⟩ := am_oks_cons.mp ok2
          obtain ⟨hsp, ok4⟩ := am_oks_cons.mp ok3
          obtain ⟨hp0, ok5⟩ := am_oks_cons.mp ok4
          split at hp
          · cases hp
            refine ⟨⟨⟨hokh.1, fun x y => ?_, hokh.2.2.1, hokh.2.2.2.1, hokh.2.2.2.2⟩, Nat.le_refl _, Nat.le_refl _, Nat.le_refl _, fun _ _ => ⟨rfl, rfl⟩⟩, ok5⟩
            show -9223372036854775808 ≤ am_cpy _ _ _ _ _ _ _ _ ∧ am_cpy _ _ _ _ _ _ _ _ < 9223372036854775808
            unfold am_cpy
            split
            · split
              · exact hokh.2.1 _ _
              · exact hokh.2.1 _ _
            · exact hokh.2.1 _ _
          · cases hp
            refine ⟨⟨⟨fun x y => ?_, hokh.2.1, hokh.2.2.1, hokh.2.2.2.1, hokh.2.2.2.2⟩, Nat.le_refl _, Nat.le_refl _, Nat.le_refl _, fun q hq => ⟨am_cpy_ne (by have := hg.1.2.2.1; omega), rfl⟩⟩, ok5⟩
            show -2147483648 ≤ am_cpy _ _ _ _ _ _ _ _ ∧ am_cpy _ _ _ _ _ _ _ _ < 2147483648
            unfold am_cpy
            split
            · split
              · exact hokh.1 _ _
              · exact hokh.1 _ _
            · exact hokh.1 _ _
        · cases hp
      · cases hp
    · cases hp
  · cases hp
def am_nrm (ins : Instr) : Bool := match ins with
  | .goto _ => false
  | .ifCond _ _ => false
  | .if_icmp _ _ => false
  | .tableswitch _ _ _ _ => false
  | .lookupswitch _ _ => false
  | .ireturn => false
  | .lreturn => false
  | .return_ => false
  | .invokevirtual _ => false
  | .invokespecial _ => false
  | .invokestatic _ => false
  | .new _ => false
  | _ => true
/-- a whole program: names, code, locals, answers, arguments, receivers' classes, handlers, instructions -/
abbrev am_PG : Type := (Nat → MethodName) × (Nat → ByteArray) × (Nat → Nat) × (Nat → Option FieldType) × (Nat → Nat) × (Nat → Nat) × (Nat → List am_HE) × (Nat → Nat → Option am_E)
abbrev am_mn (P : am_PG) := P.1
abbrev am_by (P : am_PG) := P.2.1
abbrev am_ml (P : am_PG) := P.2.2.1
abbrev am_re (P : am_PG) := P.2.2.2.1
abbrev am_na (P : am_PG) := P.2.2.2.2.1
abbrev am_rc (P : am_PG) := P.2.2.2.2.2.1
abbrev am_hl (P : am_PG) := P.2.2.2.2.2.2.1
abbrev am_co (P : am_PG) := P.2.2.2.2.2.2.2
def am_mkj (P : am_PG) (j : Nat) : Prop := am_mk (am_mn P j) (am_by P j) (am_ml P j) (am_re P j) (am_hl P j)
def am_ctl (P : am_PG) (own : String) (cc : ByteArray) (hlj : List am_HE) (ini : Bool) (pc len : Nat) (ins : Instr) (a b : Nat) (z : Int) : Prop := match ins with
  | .goto _ => len = 3
  | .ifCond _ _ => len = 3
  | .if_icmp _ _ => len = 3
  | .ireturn => len = 1
  | .lreturn => len = 1
  | .return_ => len = 1
  | .invokevirtual idx => len = 3 ∧ am_mkj P a ∧ am_cv own idx (am_mn P a) (am_na P a) (am_rc P a)
  | .invokestatic idx => len = 3 ∧ ((900 ≤ a ∧ am_pok own idx a true) ∨ (a < 900 ∧ am_mkj P a ∧ am_cs own idx (am_mn P a) (am_na P a) (am_hl P a)))
  | .invokespecial idx => len = 3 ∧ ((900 ≤ a ∧ am_pok own idx a false) ∨ (a < 900 ∧ am_mkj P a ∧ am_ci own idx (am_mn P a) (am_re P a) (am_na P a) (am_hl P a)))
  | .new idx => (50 ≤ a ∧ am_thok own cc pc (a - 50) ∧ hlj = []) ∨ (a < 12 ∧ len = 3 ∧ am_hok own ini (.new idx) a b z)
  | _ => True
def am_iok (P : am_PG) (own : String) (cc : ByteArray) (hlj : List am_HE) (ini : Bool) (pc : Nat) (e : am_E) : Prop :=
  decode cc pc = .ok (e.2.1, e.1) ∧ am_ctl P own cc hlj ini pc e.1 e.2.1 e.2.2.1 e.2.2.2.1 e.2.2.2.2 ∧ (am_nrm e.2.1 = true → am_len e.2.1 = e.1 ∧ am_hok own ini e.2.1 e.2.2.1 e.2.2.2.1 e.2.2.2.2)
theorem am_args_inv {n : Nat} {st ar r : List am_V} (h : am_args n st = some (ar, r)) : st = ar.reverse ++ r ∧ ar.length = n := by
  unfold am_args at h
  split at h
  · rename_i hn
    cases h
    refine ⟨by simp, ?_⟩
    simp; omega
  · cases h
theorem am_oks_app {n : Nat} {a b : List am_V} : am_oks n (a ++ b) ↔ am_oks n a ∧ am_oks n b := by
  unfold am_oks
  constructor
  · exact fun h => ⟨fun v hv => h v (List.mem_append_left _ hv), fun v hv => h v (List.mem_append_right _ hv)⟩
  · exact fun h v hv => (List.mem_append.mp hv).elim (h.1 v) (h.2 v)
theorem am_oks_rev {n : Nat} {a : List am_V} : am_oks n a.reverse ↔ am_oks n a := by
  unfold am_oks; simp
theorem am_vok_list {n : Nat} {v : Option am_V} (h : am_vok v) : am_oks n v.toList := by
  intro w hw
  rcases v with _ | v
  · cases hw
  · have : w = v := by simpa using hw
    subst this
    exact am_ok_mono (Nat.zero_le _) (h _ rfl).1
theorem am_hdf_lt {hl : List am_HE} {pc E : Nat} : True := trivial
/-- what a call's answer goes on to -/
theorem am_aft_mono {hd : Nat → Nat → Option (Option (Nat × Nat))} {k : Nat → am_L → List am_V → am_H → Option am_R} {pc len : Nat} {ls : am_L} {r : List am_V} {o : Option am_R} {h : am_H} {res : am_R} (hh : am_aft hd k pc len ls r o = some res) (hok : am_oks h.1.length r) (hlok : am_loks h.1.length ls)
    (ho : ∀ q, o = some q → am_mono h (am_rh q) ∧ am_rok q) (hk : ∀ pc ls st h, k pc ls st h = some res → am_okh h → am_oks h.1.length st → am_loks h.1.length ls → am_mono h (am_rh res) ∧ am_rok res) : am_mono h (am_rh res) ∧ am_rok res := by
  unfold am_aft at hh
  split at hh
  · cases hh
  · rename_i v h'
    obtain ⟨m1, v1⟩ := ho _ rfl
    have m1' : am_mono h h' := m1
    obtain ⟨q1, q2⟩ := hk _ _ _ _ hh m1'.1 (am_oks_app.mpr ⟨am_vok_list v1, fun v hv => am_ok_mono m1'.2.1 (hok v hv)⟩) (fun i v hv => am_ok_mono m1'.2.1 (hlok i v hv))
    exact ⟨am_mono_tr m1' q1, q2⟩
  · rename_i x h'
    obtain ⟨m1, v1⟩ := ho _ rfl
    have m1' : am_mono h h' := m1
    split at hh
    · cases hh
    · cases hh; exact ⟨m1, v1⟩
    · rename_i t i hd1
      split at hh
      · rename_i l2 hst
        have hl2 : am_loks h'.1.length (l2.set i none) := by
          intro j w hj
          obtain ⟨-, hj2⟩ := am_get_lt hj
          by_cases hji : j = i
          · subst hji
            by_cases hlt : j < l2.length
            · rw [List.getElem?_set_self hlt] at hj2; cases hj2
            · rw [List.getElem?_eq_none_iff.mpr (by rw [List.length_set]; omega)] at hj2; cases hj2
          · rw [List.getElem?_set_ne (fun z => hji z.symm)] at hj2
            rcases am_st_get hst (am_get_of hj2) with ⟨e, -⟩ | ⟨-, -, e, -⟩
            · exact absurd e hji
            · exact am_ok_mono m1'.2.1 (hlok j w e)
        obtain ⟨q1, q2⟩ := hk _ _ _ _ hh m1'.1 (fun v hv => by cases hv) hl2
        exact ⟨am_mono_tr m1' q1, q2⟩
      · cases hh
theorem am_jmp_mono {k : Nat → am_L → List am_V → am_H → Option am_R} {ls : am_L} {r : List am_V} {h : am_H} {o : Option Nat} {res : am_R} (hh : am_jmp k ls r h o = some res) (hk : ∀ pc, k pc ls r h = some res → am_mono h (am_rh res) ∧ am_rok res) : am_mono h (am_rh res) ∧ am_rok res := by
  unfold am_jmp at hh
  split at hh
  · exact hk _ hh
  · cases hh
theorem am_nx_mono {k : Nat → am_L → List am_V → am_H → Option am_R} {pc : Nat} {h : am_H} {o : Option (am_L × List am_V × am_H)} {res : am_R} (hh : am_nx k pc o = some res) (ho : ∀ l s h', o = some (l, s, h') → am_mono h h' ∧ am_oks h'.1.length s ∧ am_loks h'.1.length l) (hk : ∀ pc ls st h, k pc ls st h = some res → am_okh h → am_oks h.1.length st → am_loks h.1.length ls → am_mono h (am_rh res) ∧ am_rok res) : am_mono h (am_rh res) ∧ am_rok res := by
  unfold am_nx at hh
  split at hh
  · rename_i l s h'
    obtain ⟨m1, q1, q2⟩ := ho _ _ _ rfl
    obtain ⟨m2, v2⟩ := hk _ _ _ _ hh m1.1 q1 q2
    exact ⟨am_mono_tr m1 m2, v2⟩
  · cases hh
theorem am_nrm_of {ins : Instr} (h1 : ∀ o, ins = .goto o → False) (h2 : ∀ c o, ins = .ifCond c o → False) (h3 : ∀ c o, ins = .if_icmp c o → False) (h4 : ∀ a b c d, ins = .tableswitch a b c d → False) (h5 : ∀ a b, ins = .lookupswitch a b → False) (h6 : ins = .ireturn → False) (h7 : ins = .lreturn → False) (h8 : ins = .return_ → False) (h9 : ∀ i, ins = .invokevirtual i → False) (h10 : ∀ i, ins = .invokespecial i → False) (h11 : ∀ i, ins = .invokestatic i → False) (h12 : ∀ i, ins = .new i → False) : am_nrm ins = true := by
  unfold am_nrm
  split
  · exact absurd rfl (fun q => h1 _ q)
  · exact absurd rfl (fun q => h2 _ _ q)
  · exact absurd rfl (fun q => h3 _ _ q)
  · exact absurd rfl (fun q => h4 _ _ _ _ q)
  · exact absurd rfl (fun q => h5 _ _ q)
  · exact absurd rfl h6
  · exact absurd rfl h7
  · exact absurd rfl h8
  · exact absurd rfl (fun q => h9 _ q)
  · exact absurd rfl (fun q => h10 _ q)
  · exact absurd rfl (fun q => h11 _ q)
  · exact absurd rfl (fun q => h12 _ q)
  · rfl
