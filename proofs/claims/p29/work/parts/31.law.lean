def R_law : String := "DelegationShopLaw"
def lw_P (b : Addr) (xs : List Int32) (args : Array Value) (s : State) : Prop := args = #[.ref b] ∧ s.IntsAt b xs ∧ xs.length ≤ 260 ∧ (Jvm.Cond.and given_1 narrow_1).before args s = true
def lw_Q (_ : Array Value) (s : State) (o : Outcome) (t : State) : Prop := o = .returned (some (.int 1)) ∧ Framed s o t [] 600086 7301441
def lw_Z (below : List Frame) (a : Array Value) (s : State) : State → Prop := fun t => ∃ o, t.status = .running ∧ Ended t below o ∧ lw_Q a s o t
/-- the law's own end, with 1 on the stack, nothing written that was there before, its room as the claim has it -/
theorem lw_ret {p : Program} {l : Launch} {e : Env} {s : State} {m : MethodId} {below : List Frame} {meth : Method} {c : Code} {b : Nat} (hx : p.tables.exec = Jvm.exec) (hb : c.code = code) (hr : meth.sig.returnType = ret) (hlocks : meth.locks = false) {pc : Nat} {H : Heap} {ls : Array Slot} (hdg : decode code pc = .ok (.ireturn, 1)) : W p l e room_1 s m #[Value.ref b] below meth c H [] 600086 7301441 (lw_Z below #[Value.ref b] s) (F0 m pc ls [.int 1]) := by
  intro T hT X
  obtain ⟨fs, hret, hrun, hended, hW, hframe⟩ := X.leave (v := some (.int 1)) (hlocks := hlocks) (fun h => by rw [hr] at h; cases h)
  have hmeth' : T.vm.method? m = some meth := X.method'
  refine ⟨T.setFrames fs, ?_, .returned (some (.int 1)), hrun, hended, rfl, ⟨_, rfl⟩, hW, hframe⟩
  jvm_step X.here [X.here.top, hx, hb, hdg, hmeth', hr, ret, narrow_b1]
  (try refine ⟨rfl, ?_⟩); (try refine ⟨rfl, ?_⟩)
  first | (intro acts; rw [hret _ acts rfl rfl rfl]) | rw [hret _ _ rfl rfl rfl]
  exact Steps.refl _
/-- what holds at the law's entry: the machine, the code, the tables' words (any of lw_tbl by 'hts w (by decide +kernel)'), the script of L ints xs at the cell b, what the Statement gives of the start (any of its parts by flat_of_before) -/
def lw_At (p : Program) (s : State) (m : MethodId) (meth : Method) (c : Code) (b L : Nat) (xs : Nat → Int32) : Prop :=
  p.tables.exec = Jvm.exec ∧ c.code = code ∧ meth.sig.returnType = ret ∧ c.maxLocals = 8 ∧ s.vm.findClass R_law = some m.cls ∧ (∀ w ∈ lw_tbl, w.before #[Value.ref b] s = true) ∧ va_X b L xs s s.heap ∧ b < s.heap.size ∧ meth.locks = false ∧ (Jvm.Cond.and given_1 narrow_1).before #[Value.ref b] s = true
/-- the law answers 1, if the abstract machine's run of it does -/
theorem am_law {p : Program} {e : Env} {s : State} {m : MethodId} {below : List Frame} {meth : Method} {c : Code} (l : Launch) (hflags : l.flags = flags0) {b L : Nat} {xs : Nat → Int32} (hL : L ≤ 260) (C0 : lw_At p s m meth c b L xs) (hxt : c.exceptionTable.toList = []) {d F N : Nat} {h' : am_H} (hd : d ≤ 1000)
    (hrun : am_run (am_ro L) am_fty am_nf (am_na am_P) (am_rc am_P) (am_co am_P 0) (am_hdf []) 2 (am_exec am_P (am_ro L) F d) N 0 (am_ent 8 [am_r (am_SP + 2)]) [] (am_h0 (fun k => (xs k).toInt)) = some (.inl (some (.inl 1), h'))) (hc : am_hc h' ≤ 600086) (hs : am_hs h' ≤ 7301441) :
    W p l e room_1 s m #[Value.ref b] below meth c s.heap [] 0 0 (lw_Z below #[Value.ref b] s) (entryFrame m ([Value.ref b] : List Value).toArray 8) := by
  obtain ⟨hexec, hb, hret, hml, hown, hts, hX, hbl, hlocks, hgv⟩ := C0
  have hn : narrow_1.before #[Value.ref b] s = true := by
    rw [Cond.before_and, Bool.and_eq_true] at hgv
    exact hgv.2
  obtain ⟨ρ, hρ2, hgs, hrof⟩ := am_start0 hL hts hn hX hbl
  have htsG : ∀ w ∈ lw_tblG, w.before #[Value.ref b] s = true := fun w hw => hts w (am_tblm hw)
  obtain ⟨D, hK⟩ := am_Kof htsG
  have hst : l.stackTraces = false := by
    show (!l.flags.contains noTraceFlag) = false
    rw [hflags]; decide +kernel
  have hbd : ∀ k, -2147483648 ≤ (xs k).toInt ∧ (xs k).toInt < 2147483648 := fun k => ⟨Int32.le_toInt _, Int32.toInt_lt _⟩
  have hokh := am_h0_ok hbd
  have hok : am_oks 0 [am_r (am_SP + 2)] := by
    intro v hv
    have : v = am_r (am_SP + 2) := by simpa using hv
    subst this
    exact Or.inr (Nat.le_add_right _ _)
  have e1 : ([Value.ref b] : List Value) = [am_r (am_SP + 2)].map (am_rep ρ) := by
    show _ = [am_rep ρ (.inr (.inr (am_SP + 2)))]
    rw [am_rep_sp hρ2]
  have e2 : entryFrame m ([Value.ref b] : List Value).toArray 8 = F0 m 0 ((lg_sl ([am_r (am_SP + 2)].map (am_rep ρ)) ++ List.replicate (8 - (lg_sl ([am_r (am_SP + 2)].map (am_rep ρ))).length) Slot.unset).toArray) [] := by
    rw [e1]; exact lg_entry_eq m _ 8
  rw [e2]
  have hcat : am_cats [am_r (am_SP + 2)] ≤ 8 := by decide
  have hro : ∀ q k len, am_ro L q = some (k, len) → len < 2147483648 := fun q k len hq => (hrof q k len hq).1
  have hnil : am_wl ρ (am_h0 (fun k => (xs k).toInt)) = [] := rfl
  have hCR : am_CR (am_ro L) D (fun q => s.heap.size ≤ q) s ρ (am_h0 (fun k => (xs k).toInt)) s.heap [] :=
    ⟨by rw [hnil]; exact fun k q h => (by cases h), by rw [hnil]; exact ⟨fun i j p q h => (by cases h), fun k q h => (by cases h)⟩, va_S.rf, fun i k len h => (by cases h), hokh, hrof⟩
  have hph := am_phr
  have hrow : am_Phi am_P am_rc1 := am_ph0
  refine am_run_sound (P := am_P) (R := room_1) (D := D) (A := fun q => s.heap.size ≤ q) (ro := am_ro L) (d := d) (nL := 8) (ρ0 := ρ) (hlj := []) (ini := false) (own := R_law) (rt := 2) hexec hb hst hown htsG hK (fun q hq => hq) hgs (fun h => by cases h) hlocks hml hxt hrow.2 ?_ ?_ hro hrow.1
    (fun j ar h res q1 q2 q3 q4 => am_exec_mono am_P_ok hro d j ar h res q1 q2 q3 q4) (fun j ar h res q1 q2 q3 q4 ρ => am_exec_sound am_P_ok hro hst d j ar h res q1 q2 q3 q4 ρ) N 0 _ [] _ _ hrun (fun v hv => by cases hv) (am_ent_loks hok) (am_ent_len hcat) ρ s.heap [] 0 0 _ (am_ent_has ρ hcat) hCR rfl ?_ ?_ ?_ ?_ ?_
  · show d + 13 ≤ 2048
    omega
  · show 80 * d + 580 ≤ 84000
    omega
  · show 0 + (am_hc h' - 0) ≤ 600086
    omega
  · show 0 + (am_hs h' - 0) ≤ 7301441
    omega
  · intro v h2 ρ' H' locs' jls' pc' hres q1 q2 q3 q4
    cases hres
    refine va_forget q2.2.2.1.2.2 ?_
    rcases q4 with ⟨z, -⟩ | ⟨x, hx, r0, r1, r2⟩ | ⟨x, hx, -⟩
    · cases z
    · cases hx
      refine W.widen (k := 600086) (n := 7301441) (show 0 + (am_hc h' - 0) ≤ 600086 by omega) (show 0 + (am_hs h' - 0) ≤ 7301441 by omega) ?_
      have e9 : (((some (.inl 1) : Option am_V)).map (am_rep ρ')).toList = [Value.int 1] := by
        show [Value.int (Int32.ofInt 1)] = _
        rw [show Int32.ofInt 1 = (1 : Int32) by decide]
      rw [e9]
      exact lw_ret hexec hb hret hlocks r2
    · cases hx
  · intro x h2 ρ' H' locs' jls' pc' rest q ce hres
    cases hres
  · intro x h2 ρ' H' locs' jls' pc' rest hres
    cases hres
