def am_exec (P : am_PG) (ro : Nat → Option (Nat × Nat)) (F : Nat) : Nat → Nat → List am_V → am_H → Option am_R
  | 0, _, _, _ => none
  | d + 1, j, ar, h => if am_cats ar ≤ am_ml P j then am_run ro am_fty am_nf (am_na P) (am_rc P) (am_co P j) (am_hdf (am_hl P j)) (am_rtag (am_re P j)) (am_exec P ro F d) F 0 (am_ent (am_ml P j) ar) [] h else none
def am_ini (y : MethodName) : Bool := decide (y.name = "<init>")
/-- the program's rows say what is so -/
def am_pgok (P : am_PG) : Prop := ∀ j, am_mkj P j → (∀ pc e, am_co P j pc = some e → am_iok P (am_mn P j).cls (am_by P j) (am_hl P j) (am_ini (am_mn P j)) pc e) ∧ am_hlok (am_mn P j).cls (am_by P j) (am_hl P j)
def am_entl (ar : List am_V) : am_L := ar.flatMap (fun v => if am_cat v = 2 then [some v, none] else [some v])
theorem am_ent_eq (n : Nat) (ar : List am_V) : am_ent n ar = am_entl ar ++ List.replicate (n - (am_entl ar).length) none := rfl
theorem am_entl_len : ∀ ar : List am_V, (am_entl ar).length = am_cats ar
  | [] => rfl
  | v :: r => by
    have ih := am_entl_len r
    have e : am_entl (v :: r) = (if am_cat v = 2 then [some v, none] else [some v]) ++ am_entl r := by unfold am_entl; simp
    rw [e, List.length_append, ih, am_cats_cons]
    rcases v with z | z | z <;> rfl
theorem am_ent_len {n : Nat} {ar : List am_V} (h : am_cats ar ≤ n) : (am_ent n ar).length = n := by
  rw [am_ent_eq, List.length_append, List.length_replicate, am_entl_len]; omega
theorem am_lg_len (ρ : am_A) : ∀ ar : List am_V, (lg_sl (ar.map (am_rep ρ))).length = am_cats ar
  | [] => rfl
  | v :: r => by
    have ih := am_lg_len ρ r
    have e : lg_sl ((v :: r).map (am_rep ρ)) = (if (am_rep ρ v).category = 2 then [.val (am_rep ρ v), .second] else [.val (am_rep ρ v)]) ++ lg_sl (r.map (am_rep ρ)) := by unfold lg_sl; simp
    rw [e, List.length_append, ih, am_cats_cons, am_rep_cat]
    rcases v with z | z | z <;> rfl
theorem am_entl_mem (ρ : am_A) : ∀ (ar : List am_V) (k i : Nat) (v : am_V), (am_entl ar)[i]? = some (some v) → (k + i, am_rep ρ v) ∈ lv_args k (ar.map (am_rep ρ))
  | [], k, i, v, h => by cases h
  | w :: r, k, i, v, h => by
    have e : am_entl (w :: r) = (if am_cat w = 2 then [some w, none] else [some w]) ++ am_entl r := by unfold am_entl; simp
    rw [e] at h
    have e2 : lv_args k ((w :: r).map (am_rep ρ)) = (k, am_rep ρ w) :: lv_args (k + (am_rep ρ w).category) (r.map (am_rep ρ)) := by
      show (k, am_rep ρ w) :: lv_args (if (am_rep ρ w).category = 2 then k + 2 else k + 1) (r.map (am_rep ρ)) = _
      rcases lv_cat (am_rep ρ w) with q | q <;> rw [q] <;> rfl
    rw [e2, am_rep_cat]
    by_cases hc : am_cat w = 2
    · rw [if_pos hc] at h
      match i, h with
      | 0, h => cases h; exact List.mem_cons_self
      | 1, h => cases h
      | i + 2, h =>
        have h2 : (am_entl r)[i]? = some (some v) := h
        have := am_entl_mem ρ r (k + 2) i v h2
        rw [hc]
        refine List.mem_cons_of_mem _ ?_
        rw [show k + (i + 2) = k + 2 + i by omega]
        exact this
    · rw [if_neg hc] at h
      have hc1 : am_cat w = 1 := by
        rcases w with z | z | z
        · rfl
        · exact absurd rfl hc
        · rfl
      match i, h with
      | 0, h => cases h; exact List.mem_cons_self
      | i + 1, h =>
        have h2 : (am_entl r)[i]? = some (some v) := h
        have := am_entl_mem ρ r (k + 1) i v h2
        rw [hc1]
        refine List.mem_cons_of_mem _ ?_
        rw [show k + (i + 1) = k + 1 + i by omega]
        exact this
theorem am_ent_get {n : Nat} {ar : List am_V} {i : Nat} {v : am_V} (h : am_get (am_ent n ar) i = some v) : (am_entl ar)[i]? = some (some v) := by
  obtain ⟨-, h2⟩ := am_get_lt h
  rw [am_ent_eq] at h2
  by_cases hl : i < (am_entl ar).length
  · rw [List.getElem?_append_left hl] at h2; exact h2
  · rw [List.getElem?_append_right (by omega)] at h2
    have := List.mem_of_getElem? h2
    have := List.eq_of_mem_replicate this
    cases this
theorem am_entl_ok {m : Nat} : ∀ {ar : List am_V}, am_oks m ar → ∀ (i : Nat) (v : am_V), (am_entl ar)[i]? = some (some v) → am_ok m v
  | [], _, i, v, h => by cases h
  | w :: r, hok, i, v, h => by
    have e : am_entl (w :: r) = (if am_cat w = 2 then [some w, none] else [some w]) ++ am_entl r := by unfold am_entl; simp
    rw [e] at h
    obtain ⟨q1, q2⟩ := am_oks_cons.mp hok
    by_cases hc : am_cat w = 2
    · rw [if_pos hc] at h
      match i, h with
      | 0, h => cases h; exact q1
      | 1, h => cases h
      | i + 2, h => exact am_entl_ok q2 i v h
    · rw [if_neg hc] at h
      match i, h with
      | 0, h => cases h; exact q1
      | i + 1, h => exact am_entl_ok q2 i v h
theorem am_ent_loks {n m : Nat} {ar : List am_V} (hok : am_oks m ar) : am_loks m (am_ent n ar) := fun i v h => am_entl_ok hok i v (am_ent_get h)
theorem am_ent_has (ρ : am_A) {n : Nat} {ar : List am_V} (h : am_cats ar ≤ n) : lv_has ((lg_sl (ar.map (am_rep ρ)) ++ List.replicate (n - (lg_sl (ar.map (am_rep ρ))).length) Slot.unset).toArray) (am_ent n ar).length (am_lr ρ (am_ent n ar)) := by
  have h0 := lv_entry (ar.map (am_rep ρ)) (n := n) (by rw [am_lg_len]; exact h)
  rw [am_ent_len h]
  refine ⟨h0.1, h0.2.1, fun q hq => ?_⟩
  obtain ⟨v, h1, h2⟩ := am_lr_inv hq
  have h3 := am_entl_mem ρ ar 0 q.1 v (am_ent_get h1)
  rw [Nat.zero_add, ← h2] at h3
  exact h0.2.2 q h3
theorem am_exec_mono {P : am_PG} {ro : Nat → Option (Nat × Nat)} (hP : am_pgok P) (hro : ∀ q k len, ro q = some (k, len) → len < 2147483648) {F : Nat} : ∀ (d j : Nat) (ar : List am_V) (h : am_H) (res : am_R), am_mkj P j → am_exec P ro F d j ar h = some res → am_okh h → am_oks h.1.length ar → am_mono h (am_rh res) ∧ am_rok res := by
  intro d
  induction d with
  | zero => intro j ar h res _ hh; cases hh
  | succ d ih =>
    intro j ar h res hj hh hokh hok
    rw [am_exec] at hh
    split at hh
    · exact am_run_mono hro (hP j hj).1 ih F 0 _ _ h res hh hokh (fun v hv => by cases hv) (am_ent_loks hok)
    · cases hh
theorem am_nchar {x : Int} (h0 : 0 ≤ x) (h1 : x < 65536) : narrow .char (.int (Int32.ofInt x)) = .int (Int32.ofInt x) := by
  show Value.int ((Int32.ofInt x).toUInt32 % 65536).toInt32 = _
  congr 1
  apply Int32.toBitVec_inj.mp
  show (BitVec.ofInt 32 x) % 65536#32 = BitVec.ofInt 32 x
  apply BitVec.eq_of_toNat_eq
  rw [BitVec.toNat_umod, BitVec.toNat_ofInt]
  show (x % 4294967296).toNat % 65536 = (x % 4294967296).toNat
  omega
section AMX
variable {l : Launch} {P : am_PG} {ro : Nat → Option (Nat × Nat)} {F : Nat} {D : va_G} {A : Nat → Prop}
theorem am_rtag_int {r : Option FieldType} (h : am_rtag r = 1) : r = some .int := by
  unfold am_rtag at h; split at h <;> first | rfl | omega
theorem am_rtag_bool {r : Option FieldType} (h : am_rtag r = 2) : r = some .boolean := by
  unfold am_rtag at h; split at h <;> first | rfl | omega
theorem am_rtag_long {r : Option FieldType} (h : am_rtag r = 3) : r = some .long := by
  unfold am_rtag at h; split at h <;> first | rfl | omega
theorem am_rtag_byte {r : Option FieldType} (h : am_rtag r = 4) : r = some .byte := by
  unfold am_rtag at h; split at h <;> first | rfl | omega
theorem am_rtag_char {r : Option FieldType} (h : am_rtag r = 5) : r = some .char := by
  unfold am_rtag at h; split at h <;> first | rfl | omega
theorem am_rtag_void {r : Option FieldType} (h : am_rtag r = 0) : r = none := by
  unfold am_rtag at h; split at h <;> first | rfl | omega
/-- the body of a method -/
theorem am_body (hP : am_pgok P) (hro : ∀ q k len, ro q = some (k, len) → len < 2147483648) (hst : l.stackTraces = false) {d j : Nat} {ar : List am_V} {h : am_H} {res : am_R} (hj : am_mkj P j) (hh : am_exec P ro F (d + 1) j ar h = some res) (hokh : am_okh h) (hok : am_oks h.1.length ar)
    (hcs : ∀ j ar h res, am_mkj P j → am_exec P ro F d j ar h = some res → am_okh h → am_oks h.1.length ar → ∀ ρ, vx_Met l (am_mn P j) (am_wd (am_mn P j) (am_by P j) (am_ml P j) (am_re P j) (am_hl P j) :: lw_tblG) (am_rm d (am_hc (am_rh res) - am_hc h) (am_hs (am_rh res) - am_hs h)) (am_Pc ro D A ρ h ar) (am_Qc D A ρ h.1.length res) (am_Xc D A ρ h.1.length res) (am_hc (am_rh res) - am_hc h) (am_hs (am_rh res) - am_hs h) A) (ρ : am_A)
    {p : Program} {e : Env} {s : State} {m : MethodId} {args : Array Value} {below : List Frame} {meth : Method} {c : Code} (hexec : p.tables.exec = Jvm.exec) (hb : c.code = am_by P j) (hown : s.vm.findClass (am_mn P j).cls = some m.cls) (hts : ∀ w ∈ lw_tblG, w.before args s = true) (hret : meth.sig.returnType = am_re P j) (hlocks : meth.locks = false) (hml : c.maxLocals = am_ml P j) (hname : am_ini (am_mn P j) = true → meth.name = "<init>") (hxt : c.exceptionTable.toList = tableOf (am_hh (am_hl P j)))
    (hPc : am_Pc ro D A ρ h ar args s) :
    W p l e (am_rm (d + 1) (am_hc (am_rh res) - am_hc h) (am_hs (am_rh res) - am_hs h)) s m args below meth c s.heap [] 0 0 (vx_MQ below (am_Qc D A ρ h.1.length res) (am_Xc D A ρ h.1.length res) args s (am_hc (am_rh res) - am_hc h) (am_hs (am_rh res) - am_hs h) A) (entryFrame m args (am_ml P j)) := by
  obtain ⟨rfl, k1, k2, k3, k4, k5, k6, k7⟩ := hPc
  obtain ⟨hmono, hrok⟩ := am_exec_mono hP hro (d + 1) j ar h res hj hh hokh hok
  rw [am_exec] at hh
  split at hh
  case isFalse => cases hh
  rename_i hcat
  have hCR : am_CR ro D A s ρ h s.heap [] := ⟨k2, k3, va_S.rf, k4, hokh, k5⟩
  rw [lg_entry_eq]
  have hmc : ∀ h', am_rh res = h' → am_hc (am_rh res) - am_hc h = am_hc h' - am_hc h ∧ am_hs (am_rh res) - am_hs h = am_hs h' - am_hs h := by
    intro h' e1; rw [e1]; exact ⟨rfl, rfl⟩
  refine am_run_sound (d := d) (nL := am_ml P j) (ρ0 := ρ) (hlj := am_hl P j) (ini := am_ini (am_mn P j)) (own := (am_mn P j).cls) hexec hb hst hown hts k1 k7 k6 hname hlocks hml hxt (hP j hj).2 ?_ ?_ hro (hP j hj).1 (fun j ar h res q1 q2 q3 q4 => am_exec_mono hP hro d j ar h res q1 q2 q3 q4) hcs F 0 _ [] h res hh (fun v hv => by cases hv) (am_ent_loks hok) (am_ent_len hcat) ρ s.heap [] 0 0 _ (am_ent_has ρ hcat) hCR rfl ?_ ?_ ?_ ?_ ?_
  · exact Nat.le_of_eq (show d + 13 = d + 1 + 12 by omega)
  · exact Nat.le_of_eq (show 80 * d + 580 = 80 * (d + 1) + 500 by omega)
  · rw [Nat.zero_add]; exact Nat.le_refl _
  · rw [Nat.zero_add]; exact Nat.le_refl _
  · -- it answers
    intro v h' ρ' H' locs' jls' pc' hres q1 q2 q3 q4
    subst hres
    have hv : am_vok v := hrok
    have hpost : ∀ t : State, t.heap = H' → s.WarmedH t.vm → am_Qc D A ρ h.1.length (.inl (v, h')) (ar.map (am_rep ρ)).toArray s (.returned (v.map (am_rep ρ))) t := by
      intro t ht hW
      exact ⟨v, h', rfl, rfl, ρ', q1, by rw [ht]; exact q2.1, q2.2.1, am_ak_moved hW.alike q2.2.2.2.1, q2.2.2.1.F ht⟩
    rw [am_vok_rep hv ρ' ρ]
    rw [Nat.zero_add, Nat.zero_add]
    refine vx_ret ?_
    rcases q4 with ⟨rfl, r1, r2⟩ | ⟨x, rfl, r0, r1, r2⟩ | ⟨x, rfl, r1, r2⟩
    · rw [am_rtag_void r1] at hret
      exact W.vret hexec hb hret hpost q2.2.2.1.2.2 r2
    · rcases r1 with r1 | ⟨r1, r3⟩ | ⟨r1, r3⟩ | ⟨r1, r3⟩
      · rw [am_rtag_int r1] at hret
        exact W.zret hexec hb hret rfl hpost q2.2.2.1.2.2 r2
      · rw [am_rtag_bool r1] at hret
        exact W.zret hexec hb hret (by rcases r3 with rfl | rfl <;> rfl) hpost q2.2.2.1.2.2 r2
      · rw [am_rtag_byte r1] at hret
        refine W.zret hexec hb hret ?_ hpost q2.2.2.1.2.2 r2
        show Value.int (Int32.ofInt x).toInt8.toInt32 = _
        rw [am_i2b r0.1 r0.2, am_w8_id r3.1 r3.2]
      · rw [am_rtag_char r1] at hret
        exact W.zret hexec hb hret (am_nchar r3.1 r3.2) hpost q2.2.2.1.2.2 r2
    · rw [am_rtag_long r1] at hret
      exact W.lret hexec hb hret hpost q2.2.2.1.2.2 r2
  · -- it throws on
    intro x h' ρ' H' locs' jls' pc' rest q ce hres q1 q2 q3 q4 q5 q6
    subst hres
    have hx4 : x < 3 := hrok
    rw [Nat.zero_add, Nat.zero_add]
    have hpass : ∀ z ∈ c.exceptionTable.toList, covers z pc' = false ∨ (z.catchType ≠ 0 ∧ ∃ nm : String, (Cond.classLink (am_mn P j).cls z.catchType nm).before (ar.map (am_rep ρ)).toArray s = true ∧ va_Nc (am_xn x) nm s) := by
      rcases am_hd_split k6.2.2.2.2.2.2.2 (pc := pc') hx4 (am_hl P j) (hP j hj).2 with ⟨-, g2⟩ | ⟨pre, y, suf, g1, g2, g3, g4, g5⟩
      · intro z hz
        rw [hxt] at hz
        unfold am_hh tableOf at hz
        rw [List.map_map] at hz
        obtain ⟨z0, hz0, rfl⟩ := List.mem_map.mp hz
        have hz1 := (hP j hj).2 z0 hz0
        rcases g2 z0 hz0 with g | g
        · left
          cases hcv : covers _ pc' with
          | false => rfl
          | true => exact absurd (am_covers.mp hcv) g
        · exact Or.inr ⟨hz1.1, am_xn z0.2.2.2.2.1, hts _ hz1.2.2.1, g⟩
      · rw [q6] at g4; cases g4
    exact vx_outP hown hlocks hpass q3 q4 q5 (fun t ht hv => ⟨x, h', rfl, rfl, ρ', q1, by rw [ht]; exact q2.1, q2.2.1, am_ak_moved hv q2.2.2.2.1, q2.2.2.1.F ht⟩) q2.2.2.1.2.2 (Nat.le_refl _) (Nat.le_refl _)
  · -- it throws by itself
    intro x h' ρ' H' locs' jls' pc' rest hres q1 q2 g1 g2 q3 q4 q5 q6
    subst hres
    have e1 : am_hc (am_rh (.inr (x, am_thrown_h h'))) - am_hc h = am_hc h' - am_hc h + 1 := by
      show am_hc h' + 1 - am_hc h = _
      omega
    have e2 : am_hs (am_rh (.inr (x, am_thrown_h h'))) - am_hs h = am_hs h' - am_hs h + 6 := by
      show am_hs h' + 6 - am_hs h = _
      omega
    rw [Nat.zero_add, Nat.zero_add, e1, e2]
    refine am_throw hexec hb hst hown hts (am_gs_ext q1.2.1 k6) q2.2.2.1 (q3.trans hml.symm) q4 ?_ hlocks ?_ ?_ (Nat.le_refl _) (Nat.le_refl _) (Nat.le_refl _) (Nat.le_refl _) (fun t hv ht1 ht2 => ?_)
    · intro y hy
      rw [hxt, q5] at hy
      cases hy
    · show 5 < d + 1 + 12
      omega
    · show _ + 100 ≤ 80 * (d + 1) + 500
      omega
    · refine ⟨x, am_thrown_h h', rfl, rfl, ρ', q1, ?_, q2.2.1, am_ak_moved hv q2.2.2.2.1, ?_⟩
      · exact q2.1.kept (fun k q hq => ht2 q.1 ((q2.1 k q hq).lt))
      · refine ⟨Nat.le_trans q2.2.2.1.1 ht1, fun q g3 g4 => ?_⟩
        rw [ht2 q (Nat.lt_of_lt_of_le g3 q2.2.2.1.1)]
        exact q2.2.2.1.2.1 q g3 g4
/-- WHAT THE ABSTRACT MACHINE ANSWERS OF A METHOD, THE MACHINE DOES -/
theorem am_exec_sound (hP : am_pgok P) (hro : ∀ q k len, ro q = some (k, len) → len < 2147483648) (hst : l.stackTraces = false) : ∀ (d j : Nat) (ar : List am_V) (h : am_H) (res : am_R), am_mkj P j → am_exec P ro F d j ar h = some res → am_okh h → am_oks h.1.length ar →
    ∀ ρ, vx_Met l (am_mn P j) (am_wd (am_mn P j) (am_by P j) (am_ml P j) (am_re P j) (am_hl P j) :: lw_tblG) (am_rm d (am_hc (am_rh res) - am_hc h) (am_hs (am_rh res) - am_hs h)) (am_Pc ro D A ρ h ar) (am_Qc D A ρ h.1.length res) (am_Xc D A ρ h.1.length res) (am_hc (am_rh res) - am_hc h) (am_hs (am_rh res) - am_hs h) A := by
  intro d
  induction d with
  | zero => intro j ar h res _ hh; cases hh
  | succ d ih =>
    intro j ar h res hj hh hokh hok ρ
    have hk := hj
    obtain ⟨k1, k2, k3, k4, k5⟩ := hk
    by_cases hnil : am_hl P j = []
    · have ew : am_wd (am_mn P j) (am_by P j) (am_ml P j) (am_re P j) (am_hl P j) = .code (am_mn P j) (am_by P j) (am_ml P j) (am_re P j) := if_pos hnil
      rw [ew]
      refine vx_ofW (cc := am_by P j) (maxL := am_ml P j) (ret := am_re P j) k3 rfl ?_
      intro p e s m args below meth c s₁ B hml hex hPc
      have hts : ∀ w ∈ lw_tblG, w.before args s = true := fun w hw => atoms_spec B.pre w (List.mem_cons_of_mem _ hw)
      exact am_body hP hro hst hj hh hokh hok ih ρ B.exec B.bytes (findClass_of_methodNamed B.named) hts B.returns B.notSynchronized hml (fun q => by rw [(name_of_methodNamed B.named B.method).1]; exact of_decide_eq_true q) (by rw [hnil]; exact List.eq_nil_iff_forall_not_mem.mpr hex) hPc
    · have ew : am_wd (am_mn P j) (am_by P j) (am_ml P j) (am_re P j) (am_hl P j) = .codeWith (am_mn P j) (am_by P j) (am_ml P j) (am_re P j) (am_hh (am_hl P j)) := if_neg hnil
      rw [ew]
      refine vx_ofWH (cc := am_by P j) (maxL := am_ml P j) (ret := am_re P j) (hh := am_hh (am_hl P j)) k3 rfl ?_
      intro p e s m args below meth c s₁ B hml hPc
      have hpre := atoms_spec B.pre
      have hts : ∀ w ∈ lw_tblG, w.before args s = true := fun w hw => hpre w (List.mem_cons_of_mem _ hw)
      exact am_body hP hro hst hj hh hokh hok ih ρ B.exec B.bytes (findClass_of_methodNamed B.named) hts B.returns B.notSynchronized hml (fun q => by rw [(name_of_methodNamed B.named B.method).1]; exact of_decide_eq_true q) (vx_table (x := am_mn P j) B (hpre _ List.mem_cons_self)) hPc
end AMX
