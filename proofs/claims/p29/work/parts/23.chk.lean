/-! the program's tables: what a class's code points at, and how each instruction is looked at -/
abbrev am_LE : Type := Nat × Nat × Nat × Nat × Int
def am_ltP (P : am_PG) (own : String) (x : am_LE) : Prop := match x.1 with
  | 0 => am_hok own true (.getfield x.2.1) x.2.2.1 x.2.2.2.1 x.2.2.2.2
  | 1 => am_mkj P x.2.2.1 ∧ am_cv own x.2.1 (am_mn P x.2.2.1) (am_na P x.2.2.1) (am_rc P x.2.2.1)
  | 2 => x.2.2.1 < 900 ∧ am_mkj P x.2.2.1 ∧ am_cs own x.2.1 (am_mn P x.2.2.1) (am_na P x.2.2.1) (am_hl P x.2.2.1)
  | 3 => x.2.2.1 < 900 ∧ am_mkj P x.2.2.1 ∧ am_ci own x.2.1 (am_mn P x.2.2.1) (am_re P x.2.2.1) (am_na P x.2.2.1) (am_hl P x.2.2.1)
  | 4 => am_hok own true (.new x.2.1) x.2.2.1 x.2.2.2.1 x.2.2.2.2
  | 5 => am_hok own true (.ldc x.2.1) x.2.2.1 x.2.2.2.1 x.2.2.2.2
  | 6 => am_hok own true (.ldc_w x.2.1) x.2.2.1 x.2.2.2.1 x.2.2.2.2
  | 7 => am_hok own true (.ldc2_w x.2.1) x.2.2.1 x.2.2.2.1 x.2.2.2.2
  | 8 => am_hok own true (.getstatic x.2.1) x.2.2.1 x.2.2.2.1 x.2.2.2.2
  | 9 => 900 ≤ x.2.2.1 ∧ am_pok own x.2.1 x.2.2.1 true
  | 10 => 900 ≤ x.2.2.1 ∧ am_pok own x.2.1 x.2.2.1 false
  | 11 => ∀ ini, am_hok own ini (.putfield x.2.1) x.2.2.1 x.2.2.2.1 x.2.2.2.2
  | 12 => am_hok own true (.putfield x.2.1) x.2.2.1 x.2.2.2.1 x.2.2.2.2
  | _ => False
def am_fnd (L : List am_LE) (k idx a b : Nat) (z : Int) : Bool := L.any (fun x => Nat.beq idx x.2.1 && (Nat.beq k x.1 && (Nat.beq a x.2.2.1 && (Nat.beq b x.2.2.2.1 && decide (z = x.2.2.2.2)))))
theorem am_fnd_mem {L : List am_LE} {k idx a b : Nat} {z : Int} (h : am_fnd L k idx a b z = true) : (k, idx, a, b, z) ∈ L := by
  obtain ⟨⟨k', i', a', b', z'⟩, hx, h⟩ := List.any_eq_true.mp h
  simp only [Bool.and_eq_true, decide_eq_true_eq] at h
  obtain ⟨h1, h2, h3, h4, h5⟩ := h
  cases Nat.eq_of_beq_eq_true h1
  cases Nat.eq_of_beq_eq_true h2
  cases Nat.eq_of_beq_eq_true h3
  cases Nat.eq_of_beq_eq_true h4
  subst h5
  exact hx
def am_nat (t : ArrayType) : Bool := match t with
  | .boolean => true
  | .byte => true
  | .int => true
  | .long => true
  | _ => false
def am_chk1 (L : List am_LE) (TH : List (Nat × Nat)) (nohl ini : Bool) (pc len : Nat) (ins : Instr) (a b : Nat) (z : Int) : Bool := match ins with
  | .goto _ => Nat.beq len 3
  | .ifCond _ _ => Nat.beq len 3
  | .if_icmp _ _ => Nat.beq len 3
  | .ireturn => Nat.beq len 1
  | .lreturn => Nat.beq len 1
  | .return_ => Nat.beq len 1
  | .tableswitch _ _ _ _ => true
  | .lookupswitch _ _ => true
  | .invokevirtual idx => Nat.beq len 3 && am_fnd L 1 idx a b z
  | .invokestatic idx => Nat.beq len 3 && (am_fnd L 2 idx a b z || am_fnd L 9 idx a b z)
  | .invokespecial idx => Nat.beq len 3 && (am_fnd L 3 idx a b z || am_fnd L 10 idx a b z)
  | .new idx => (Nat.ble 50 a && (nohl && TH.any (fun y => Nat.beq y.1 pc && Nat.beq y.2 (a - 50)))) || (Nat.beq len 3 && am_fnd L 4 idx a b z)
  | .getfield idx => Nat.beq len 3 && am_fnd L 0 idx a b z
  | .putfield idx => Nat.beq len 3 && (am_fnd L 11 idx a b z || (ini && am_fnd L 12 idx a b z))
  | .newarray t => Nat.beq len 2 && am_nat t
  | .ldc idx => Nat.beq len 2 && am_fnd L 5 idx a b z
  | .ldc_w idx => Nat.beq len 3 && am_fnd L 6 idx a b z
  | .ldc2_w idx => Nat.beq len 3 && am_fnd L 7 idx a b z
  | .getstatic idx => Nat.beq len 3 && am_fnd L 8 idx a b z
  | i => Nat.beq (am_len i) len
def am_chk0 (cc : ByteArray) (pc len : Nat) (ins : Instr) : Bool := match decode cc pc with
  | .ok (i, n) => decide (i = ins) && Nat.beq n len
  | .error _ => false
theorem am_chk0_ok {cc : ByteArray} {pc len : Nat} {ins : Instr} (h : am_chk0 cc pc len ins = true) : decode cc pc = .ok (ins, len) := by
  unfold am_chk0 at h
  split at h
  · rename_i i n hd
    simp only [Bool.and_eq_true, decide_eq_true_eq] at h
    obtain ⟨rfl, h2⟩ := h
    cases Nat.eq_of_beq_eq_true h2
    exact hd
  · cases h
def am_chk (L : List am_LE) (TH : List (Nat × Nat)) (nohl ini : Bool) (cc : ByteArray) (pc : Nat) (e : am_E) : Bool := am_chk0 cc pc e.1 e.2.1 && am_chk1 L TH nohl ini pc e.1 e.2.1 e.2.2.1 e.2.2.2.1 e.2.2.2.2
theorem am_na_ok {own : String} {ini : Bool} {t : ArrayType} {a b : Nat} {z : Int} (h : am_nat t = true)
    (w1 : Jvm.Cond.arrayClass .boolean ∈ lw_tblG) (w2 : Jvm.Cond.arrayClass .byte ∈ lw_tblG) (w3 : Jvm.Cond.arrayClass .int ∈ lw_tblG) (w4 : Jvm.Cond.arrayClass .long ∈ lw_tblG) : am_hok own ini (.newarray t) a b z := by
  cases t <;> first | exact w1 | exact w2 | exact w3 | exact w4 | cases h
theorem am_chk_iok {P : am_PG} {own : String} {cc : ByteArray} {hlj : List am_HE} {ini nohl : Bool} {pc : Nat} {e : am_E} {L : List am_LE} {TH : List (Nat × Nat)}
    (w1 : Jvm.Cond.arrayClass .boolean ∈ lw_tblG) (w2 : Jvm.Cond.arrayClass .byte ∈ lw_tblG) (w3 : Jvm.Cond.arrayClass .int ∈ lw_tblG) (w4 : Jvm.Cond.arrayClass .long ∈ lw_tblG)
    (hL : ∀ x ∈ L, am_ltP P own x) (hTH : ∀ y ∈ TH, am_thok own cc y.1 y.2) (hn : nohl = true → hlj = []) (h : am_chk L TH nohl ini cc pc e = true) : am_iok P own cc hlj ini pc e := by
  obtain ⟨len, ins, a, b, z⟩ := e
  unfold am_chk at h
  simp only [Bool.and_eq_true] at h
  obtain ⟨hd, h⟩ := h
  refine ⟨am_chk0_ok hd, ?_⟩
  cases ins
  case goto => exact ⟨Nat.eq_of_beq_eq_true h, fun q => by cases q⟩
  case ifCond => exact ⟨Nat.eq_of_beq_eq_true h, fun q => by cases q⟩
  case if_icmp => exact ⟨Nat.eq_of_beq_eq_true h, fun q => by cases q⟩
  case ireturn => exact ⟨Nat.eq_of_beq_eq_true h, fun q => by cases q⟩
  case lreturn => exact ⟨Nat.eq_of_beq_eq_true h, fun q => by cases q⟩
  case return_ => exact ⟨Nat.eq_of_beq_eq_true h, fun q => by cases q⟩
  case tableswitch => exact ⟨trivial, fun q => by cases q⟩
  case lookupswitch => exact ⟨trivial, fun q => by cases q⟩
  case invokevirtual idx =>
    obtain ⟨h1, h2⟩ := (Bool.and_eq_true _ _).mp h
    have q := hL _ (am_fnd_mem h2)
    exact ⟨⟨Nat.eq_of_beq_eq_true h1, q.1, q.2⟩, fun q => by cases q⟩
  case invokestatic idx =>
    obtain ⟨h1, h2⟩ := (Bool.and_eq_true _ _).mp h
    refine ⟨⟨Nat.eq_of_beq_eq_true h1, ?_⟩, fun q => by cases q⟩
    rcases (Bool.or_eq_true _ _).mp h2 with h2 | h2
    · exact Or.inr (hL _ (am_fnd_mem h2))
    · exact Or.inl (hL _ (am_fnd_mem h2))
  case invokespecial idx =>
    obtain ⟨h1, h2⟩ := (Bool.and_eq_true _ _).mp h
    refine ⟨⟨Nat.eq_of_beq_eq_true h1, ?_⟩, fun q => by cases q⟩
    rcases (Bool.or_eq_true _ _).mp h2 with h2 | h2
    · exact Or.inr (hL _ (am_fnd_mem h2))
    · exact Or.inl (hL _ (am_fnd_mem h2))
  case new idx =>
    refine ⟨?_, fun q => by cases q⟩
    rcases (Bool.or_eq_true _ _).mp h with h | h
    · obtain ⟨h1, h2⟩ := (Bool.and_eq_true _ _).mp h
      obtain ⟨h6, h3⟩ := (Bool.and_eq_true _ _).mp h2
      obtain ⟨⟨y1, y2⟩, hy, h3⟩ := List.any_eq_true.mp h3
      obtain ⟨h4, h5⟩ := (Bool.and_eq_true _ _).mp h3
      have e4 : y1 = pc := Nat.eq_of_beq_eq_true h4
      have e5 : y2 = a - 50 := Nat.eq_of_beq_eq_true h5
      subst e4; subst e5
      exact Or.inl ⟨Nat.le_of_ble_eq_true h1, hTH _ hy, hn h6⟩
    · obtain ⟨h1, h2⟩ := (Bool.and_eq_true _ _).mp h
      have q := hL _ (am_fnd_mem h2)
      exact Or.inr ⟨q.1, Nat.eq_of_beq_eq_true h1, q⟩
  case getfield idx =>
    obtain ⟨h1, h2⟩ := (Bool.and_eq_true _ _).mp h
    exact ⟨trivial, fun _ => ⟨(Nat.eq_of_beq_eq_true h1).symm, hL _ (am_fnd_mem h2)⟩⟩
  case putfield idx =>
    obtain ⟨h1, h2⟩ := (Bool.and_eq_true _ _).mp h
    refine ⟨trivial, fun _ => ⟨(Nat.eq_of_beq_eq_true h1).symm, ?_⟩⟩
    rcases (Bool.or_eq_true _ _).mp h2 with h2 | h2
    · exact hL _ (am_fnd_mem h2) ini
    · obtain ⟨h3, h4⟩ := (Bool.and_eq_true _ _).mp h2
      subst h3
      exact hL _ (am_fnd_mem h4)
  case newarray t =>
    obtain ⟨h1, h2⟩ := (Bool.and_eq_true _ _).mp h
    exact ⟨trivial, fun _ => ⟨(Nat.eq_of_beq_eq_true h1).symm, am_na_ok h2 w1 w2 w3 w4⟩⟩
  case ldc idx =>
    obtain ⟨h1, h2⟩ := (Bool.and_eq_true _ _).mp h
    exact ⟨trivial, fun _ => ⟨(Nat.eq_of_beq_eq_true h1).symm, hL _ (am_fnd_mem h2)⟩⟩
  case ldc_w idx =>
    obtain ⟨h1, h2⟩ := (Bool.and_eq_true _ _).mp h
    exact ⟨trivial, fun _ => ⟨(Nat.eq_of_beq_eq_true h1).symm, hL _ (am_fnd_mem h2)⟩⟩
  case ldc2_w idx =>
    obtain ⟨h1, h2⟩ := (Bool.and_eq_true _ _).mp h
    exact ⟨trivial, fun _ => ⟨(Nat.eq_of_beq_eq_true h1).symm, hL _ (am_fnd_mem h2)⟩⟩
  case getstatic idx =>
    obtain ⟨h1, h2⟩ := (Bool.and_eq_true _ _).mp h
    exact ⟨trivial, fun _ => ⟨(Nat.eq_of_beq_eq_true h1).symm, hL _ (am_fnd_mem h2)⟩⟩
  all_goals exact ⟨trivial, fun _ => ⟨Nat.eq_of_beq_eq_true h, trivial⟩⟩
/-! rows of code, sixteen places each -/
def am_lk (T : List (List (Option am_E))) (pc : Nat) : Option am_E := (T.getD (pc / 16) []).getD (pc % 16) none
def am_chkR (f : Nat → am_E → Bool) (pc : Nat) : List (Option am_E) → Bool
  | [] => true
  | none :: r => am_chkR f (pc + 1) r
  | some e :: r => f pc e && am_chkR f (pc + 1) r
def am_chkT (f : Nat → am_E → Bool) (pc : Nat) : List (List (Option am_E)) → Bool
  | [] => true
  | r :: rs => am_chkR f pc r && am_chkT f (pc + 16) rs
theorem am_chkR_ok {f : Nat → am_E → Bool} : ∀ (r : List (Option am_E)) (pc : Nat), am_chkR f pc r = true → ∀ k e, r.getD k none = some e → f (pc + k) e = true
  | [], _, _, k, e, h => by cases h
  | none :: r, pc, hc, 0, e, h => by cases h
  | none :: r, pc, hc, k + 1, e, h => by
    have := am_chkR_ok r (pc + 1) hc k e h
    rw [show pc + (k + 1) = pc + 1 + k by omega]; exact this
  | some e0 :: r, pc, hc, 0, e, h => by
    cases h
    exact ((Bool.and_eq_true _ _).mp hc).1
  | some e0 :: r, pc, hc, k + 1, e, h => by
    have := am_chkR_ok r (pc + 1) ((Bool.and_eq_true _ _).mp hc).2 k e h
    rw [show pc + (k + 1) = pc + 1 + k by omega]; exact this
theorem am_chkT_ok0 {f : Nat → am_E → Bool} : ∀ (T : List (List (Option am_E))) (pc : Nat), am_chkT f pc T = true → ∀ i k e, (T.getD i []).getD k none = some e → f (pc + (16 * i + k)) e = true
  | [], _, _, i, k, e, h => by
    have e1 : (([] : List (List (Option am_E))).getD i []) = [] := rfl
    rw [e1] at h; cases h
  | r :: rs, pc, hc, 0, k, e, h => by
    have := am_chkR_ok r pc ((Bool.and_eq_true _ _).mp hc).1 k e h
    rw [show pc + (16 * 0 + k) = pc + k by omega]; exact this
  | r :: rs, pc, hc, i + 1, k, e, h => by
    have := am_chkT_ok0 rs (pc + 16) ((Bool.and_eq_true _ _).mp hc).2 i k e h
    rw [show pc + (16 * (i + 1) + k) = pc + 16 + (16 * i + k) by omega]; exact this
theorem am_chkT_ok {f : Nat → am_E → Bool} {T : List (List (Option am_E))} (h : am_chkT f 0 T = true) {pc : Nat} {e : am_E} (he : am_lk T pc = some e) : f pc e = true := by
  have := am_chkT_ok0 T 0 h (pc / 16) (pc % 16) e he
  rw [show 0 + (16 * (pc / 16) + pc % 16) = pc by omega] at this
  exact this
/-! the methods' records -/
abbrev am_RC : Type := MethodName × ByteArray × Nat × Option FieldType × Nat × Nat × List am_HE × List (List (Option am_E))
def am_rc0 : am_RC := (⟨"", "", ""⟩, ⟨#[]⟩, 0, none, 0, 0, [], [])
def am_rcd (rs : List (List am_RC)) (j : Nat) : am_RC := (rs.getD (j / 20) []).getD (j % 20) am_rc0
def am_PGof (rs : List (List am_RC)) : am_PG := (fun j => (am_rcd rs j).1, fun j => (am_rcd rs j).2.1, fun j => (am_rcd rs j).2.2.1, fun j => (am_rcd rs j).2.2.2.1, fun j => (am_rcd rs j).2.2.2.2.1, fun j => (am_rcd rs j).2.2.2.2.2.1, fun j => (am_rcd rs j).2.2.2.2.2.2.1, fun j => am_lk (am_rcd rs j).2.2.2.2.2.2.2)
/-- a record's rows say what is so -/
def am_Phi (P : am_PG) (r : am_RC) : Prop := (∀ pc e, am_lk r.2.2.2.2.2.2.2 pc = some e → am_iok P r.1.cls r.2.1 r.2.2.2.2.2.2.1 (am_ini r.1) pc e) ∧ am_hlok r.1.cls r.2.1 r.2.2.2.2.2.2.1
theorem am_Phi0 {P : am_PG} : am_Phi P am_rc0 := by
  refine ⟨fun pc e h => ?_, fun y hy => by cases hy⟩
  have e1 : am_lk (am_rc0.2.2.2.2.2.2.2) pc = none := rfl
  rw [e1] at h; cases h
theorem am_getD_all {α : Type} {Q : α → Prop} {d : α} (hd : Q d) : ∀ (l : List α) (i : Nat), (∀ x ∈ l, Q x) → Q (l.getD i d)
  | [], _, _ => hd
  | x :: r, 0, h => h x List.mem_cons_self
  | x :: r, i + 1, h => am_getD_all hd r i (fun y hy => h y (List.mem_cons_of_mem _ hy))
theorem am_PGof_ok {rs : List (List am_RC)} (h : ∀ r ∈ rs, ∀ x ∈ r, am_Phi (am_PGof rs) x) : am_pgok (am_PGof rs) := by
  intro j _
  have h1 : ∀ x ∈ rs.getD (j / 20) [], am_Phi (am_PGof rs) x := am_getD_all (Q := fun r => ∀ x ∈ r, am_Phi (am_PGof rs) x) (fun x hx => by cases hx) rs (j / 20) h
  have h2 : am_Phi (am_PGof rs) (am_rcd rs j) := am_getD_all am_Phi0 _ (j % 20) h1
  exact h2
